/-! ===== words of the law's entry ===== -/
theorem wd_L_8 : ∀ w ∈ [Cond.classLink RL 8 RX11, .instantiable RX11 10, .initialized RX11], w ∈ WA := WA_list _ [104, 105, 67] (by decide +kernel) (by decide +kernel)
theorem wd_L_163 : ∀ w ∈ [Cond.classLink RL 163 RX12, .instantiable RX12 20, .initialized RX12], w ∈ WA := WA_list _ [1589, 1590, 82] (by decide +kernel) (by decide +kernel)
theorem cI_L_162 : CI RL 162 yX11_init cX11_init 1 0 := ⟨WA_list _ [106, 107, 67, 108] (by decide +kernel) (by decide +kernel), by decide +kernel, by decide, rfl⟩
theorem cI_L_165 : CI RL 165 yX12_init cX12_init 1 0 := ⟨WA_list _ [1591, 1592, 82, 1593] (by decide +kernel) (by decide +kernel), by decide +kernel, by decide, rfl⟩
theorem wa_al : Cond.arrayClass .long ∈ WA := WA_of 2110 (by decide +kernel) (by decide +kernel)
theorem wa_ad : Cond.arrayClass .double ∈ WA := WA_of 2111 (by decide +kernel) (by decide +kernel)
theorem start_WA {s : State} {args : Array Value} (hts : ∀ w ∈ lw_tbl, w.before args s = true) : ∀ w ∈ WA, w.before args s = true := by
  intro w hw
  rcases List.mem_append.mp (List.mem_filter.mp hw).1 with h | h
  · exact hts w h
  · simp only [sbSels, List.mem_cons, List.not_mem_nil, or_false] at h
    have hin := hts _ (List.mem_of_getElem? (i := 311) (a := Cond.instantiable "java/lang/StringBuilder" 4) (by decide +kernel))
    rcases h with rfl | rfl
    · exact sel_priv (y := ⟨"java/lang/AbstractStringBuilder", "ensureCapacityInternal", "(I)V"⟩) ⟨by decide +kernel, by decide +kernel⟩ hin (hts _ (List.mem_of_getElem? (i := 2116) (by decide +kernel))) (hts _ (List.mem_of_getElem? (i := 1156) (by decide +kernel))) (hts _ (List.mem_of_getElem? (i := 1157) (by decide +kernel)))
    · exact sel_priv (y := ⟨"java/lang/AbstractStringBuilder", "newCapacity", "(I)I"⟩) ⟨by decide +kernel, by decide +kernel⟩ hin (hts _ (List.mem_of_getElem? (i := 2117) (by decide +kernel))) (hts _ (List.mem_of_getElem? (i := 1160) (by decide +kernel))) (hts _ (List.mem_of_getElem? (i := 1161) (by decide +kernel)))
