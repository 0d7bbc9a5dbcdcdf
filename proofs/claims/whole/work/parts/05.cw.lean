theorem cw0 : ∀ w ∈ u_ws RX0 TX0 2, w ∈ mc_ws := by
  have h : ((u_ws RX0 TX0 2).zip [152, 154]).all (fun q => mc_has q.2 q.1) = true := by decide +kernel
  intro w hw
  obtain ⟨i, hi⟩ := List.getElem?_of_mem hw
  have hl : i < 2 := by have := (List.getElem?_eq_some_iff.mp hi).1; simpa [u_ws] using this
  have hz : ((u_ws RX0 TX0 2).zip [152, 154])[i]? = some (w, ([152, 154] : List Nat)[i]?.getD 0) := by
    rw [List.getElem?_zip_eq_some]
    exact ⟨hi, by rw [List.getElem?_eq_getElem (by simpa using hl)]; rfl⟩
  exact mc_has_in (List.all_eq_true.mp h _ (List.mem_of_getElem? hz))
theorem cw1 : ∀ w ∈ u_ws RX1 TX1 8, w ∈ mc_ws := by
  have h : ((u_ws RX1 TX1 8).zip [127, 129, 131, 133, 135, 137, 139, 141]).all (fun q => mc_has q.2 q.1) = true := by decide +kernel
  intro w hw
  obtain ⟨i, hi⟩ := List.getElem?_of_mem hw
  have hl : i < 8 := by have := (List.getElem?_eq_some_iff.mp hi).1; simpa [u_ws] using this
  have hz : ((u_ws RX1 TX1 8).zip [127, 129, 131, 133, 135, 137, 139, 141])[i]? = some (w, ([127, 129, 131, 133, 135, 137, 139, 141] : List Nat)[i]?.getD 0) := by
    rw [List.getElem?_zip_eq_some]
    exact ⟨hi, by rw [List.getElem?_eq_getElem (by simpa using hl)]; rfl⟩
  exact mc_has_in (List.all_eq_true.mp h _ (List.mem_of_getElem? hz))
theorem cw2 : ∀ w ∈ u_ws RX2 TX2 2, w ∈ mc_ws := by
  have h : ((u_ws RX2 TX2 2).zip [285, 287]).all (fun q => mc_has q.2 q.1) = true := by decide +kernel
  intro w hw
  obtain ⟨i, hi⟩ := List.getElem?_of_mem hw
  have hl : i < 2 := by have := (List.getElem?_eq_some_iff.mp hi).1; simpa [u_ws] using this
  have hz : ((u_ws RX2 TX2 2).zip [285, 287])[i]? = some (w, ([285, 287] : List Nat)[i]?.getD 0) := by
    rw [List.getElem?_zip_eq_some]
    exact ⟨hi, by rw [List.getElem?_eq_getElem (by simpa using hl)]; rfl⟩
  exact mc_has_in (List.all_eq_true.mp h _ (List.mem_of_getElem? hz))
theorem cw3 : ∀ w ∈ u_ws RX3 TX3 7, w ∈ mc_ws := by
  have h : ((u_ws RX3 TX3 7).zip [256, 258, 260, 262, 264, 266, 268]).all (fun q => mc_has q.2 q.1) = true := by decide +kernel
  intro w hw
  obtain ⟨i, hi⟩ := List.getElem?_of_mem hw
  have hl : i < 7 := by have := (List.getElem?_eq_some_iff.mp hi).1; simpa [u_ws] using this
  have hz : ((u_ws RX3 TX3 7).zip [256, 258, 260, 262, 264, 266, 268])[i]? = some (w, ([256, 258, 260, 262, 264, 266, 268] : List Nat)[i]?.getD 0) := by
    rw [List.getElem?_zip_eq_some]
    exact ⟨hi, by rw [List.getElem?_eq_getElem (by simpa using hl)]; rfl⟩
  exact mc_has_in (List.all_eq_true.mp h _ (List.mem_of_getElem? hz))
theorem cw4 : ∀ w ∈ u_ws RX4 TX4 7, w ∈ mc_ws := by
  have h : ((u_ws RX4 TX4 7).zip [321, 323, 325, 327, 329, 331, 333]).all (fun q => mc_has q.2 q.1) = true := by decide +kernel
  intro w hw
  obtain ⟨i, hi⟩ := List.getElem?_of_mem hw
  have hl : i < 7 := by have := (List.getElem?_eq_some_iff.mp hi).1; simpa [u_ws] using this
  have hz : ((u_ws RX4 TX4 7).zip [321, 323, 325, 327, 329, 331, 333])[i]? = some (w, ([321, 323, 325, 327, 329, 331, 333] : List Nat)[i]?.getD 0) := by
    rw [List.getElem?_zip_eq_some]
    exact ⟨hi, by rw [List.getElem?_eq_getElem (by simpa using hl)]; rfl⟩
  exact mc_has_in (List.all_eq_true.mp h _ (List.mem_of_getElem? hz))
theorem cw5 : ∀ w ∈ u_ws RX5 TX5 2, w ∈ mc_ws := by
  have h : ((u_ws RX5 TX5 2).zip [187, 189]).all (fun q => mc_has q.2 q.1) = true := by decide +kernel
  intro w hw
  obtain ⟨i, hi⟩ := List.getElem?_of_mem hw
  have hl : i < 2 := by have := (List.getElem?_eq_some_iff.mp hi).1; simpa [u_ws] using this
  have hz : ((u_ws RX5 TX5 2).zip [187, 189])[i]? = some (w, ([187, 189] : List Nat)[i]?.getD 0) := by
    rw [List.getElem?_zip_eq_some]
    exact ⟨hi, by rw [List.getElem?_eq_getElem (by simpa using hl)]; rfl⟩
  exact mc_has_in (List.all_eq_true.mp h _ (List.mem_of_getElem? hz))
theorem cw6 : ∀ w ∈ u_ws RX6 TX6 5, w ∈ mc_ws := by
  have h : ((u_ws RX6 TX6 5).zip [168, 170, 172, 174, 176]).all (fun q => mc_has q.2 q.1) = true := by decide +kernel
  intro w hw
  obtain ⟨i, hi⟩ := List.getElem?_of_mem hw
  have hl : i < 5 := by have := (List.getElem?_eq_some_iff.mp hi).1; simpa [u_ws] using this
  have hz : ((u_ws RX6 TX6 5).zip [168, 170, 172, 174, 176])[i]? = some (w, ([168, 170, 172, 174, 176] : List Nat)[i]?.getD 0) := by
    rw [List.getElem?_zip_eq_some]
    exact ⟨hi, by rw [List.getElem?_eq_getElem (by simpa using hl)]; rfl⟩
  exact mc_has_in (List.all_eq_true.mp h _ (List.mem_of_getElem? hz))
theorem cw7 : ∀ w ∈ u_ws RX7 TX7 8, w ∈ mc_ws := by
  have h : ((u_ws RX7 TX7 8).zip [224, 226, 228, 230, 232, 234, 236, 238]).all (fun q => mc_has q.2 q.1) = true := by decide +kernel
  intro w hw
  obtain ⟨i, hi⟩ := List.getElem?_of_mem hw
  have hl : i < 8 := by have := (List.getElem?_eq_some_iff.mp hi).1; simpa [u_ws] using this
  have hz : ((u_ws RX7 TX7 8).zip [224, 226, 228, 230, 232, 234, 236, 238])[i]? = some (w, ([224, 226, 228, 230, 232, 234, 236, 238] : List Nat)[i]?.getD 0) := by
    rw [List.getElem?_zip_eq_some]
    exact ⟨hi, by rw [List.getElem?_eq_getElem (by simpa using hl)]; rfl⟩
  exact mc_has_in (List.all_eq_true.mp h _ (List.mem_of_getElem? hz))
theorem cw8 : ∀ w ∈ u_ws RX8 TX8 2, w ∈ mc_ws := by
  have h : ((u_ws RX8 TX8 2).zip [209, 211]).all (fun q => mc_has q.2 q.1) = true := by decide +kernel
  intro w hw
  obtain ⟨i, hi⟩ := List.getElem?_of_mem hw
  have hl : i < 2 := by have := (List.getElem?_eq_some_iff.mp hi).1; simpa [u_ws] using this
  have hz : ((u_ws RX8 TX8 2).zip [209, 211])[i]? = some (w, ([209, 211] : List Nat)[i]?.getD 0) := by
    rw [List.getElem?_zip_eq_some]
    exact ⟨hi, by rw [List.getElem?_eq_getElem (by simpa using hl)]; rfl⟩
  exact mc_has_in (List.all_eq_true.mp h _ (List.mem_of_getElem? hz))
theorem cw9 : ∀ w ∈ u_ws RX9 TX9 3, w ∈ mc_ws := by
  have h : ((u_ws RX9 TX9 3).zip [104, 106, 108]).all (fun q => mc_has q.2 q.1) = true := by decide +kernel
  intro w hw
  obtain ⟨i, hi⟩ := List.getElem?_of_mem hw
  have hl : i < 3 := by have := (List.getElem?_eq_some_iff.mp hi).1; simpa [u_ws] using this
  have hz : ((u_ws RX9 TX9 3).zip [104, 106, 108])[i]? = some (w, ([104, 106, 108] : List Nat)[i]?.getD 0) := by
    rw [List.getElem?_zip_eq_some]
    exact ⟨hi, by rw [List.getElem?_eq_getElem (by simpa using hl)]; rfl⟩
  exact mc_has_in (List.all_eq_true.mp h _ (List.mem_of_getElem? hz))
theorem cw10 : ∀ w ∈ u_ws RX10 TX10 5, w ∈ mc_ws := by
  have h : ((u_ws RX10 TX10 5).zip [295, 297, 299, 301, 303]).all (fun q => mc_has q.2 q.1) = true := by decide +kernel
  intro w hw
  obtain ⟨i, hi⟩ := List.getElem?_of_mem hw
  have hl : i < 5 := by have := (List.getElem?_eq_some_iff.mp hi).1; simpa [u_ws] using this
  have hz : ((u_ws RX10 TX10 5).zip [295, 297, 299, 301, 303])[i]? = some (w, ([295, 297, 299, 301, 303] : List Nat)[i]?.getD 0) := by
    rw [List.getElem?_zip_eq_some]
    exact ⟨hi, by rw [List.getElem?_eq_getElem (by simpa using hl)]; rfl⟩
  exact mc_has_in (List.all_eq_true.mp h _ (List.mem_of_getElem? hz))
theorem cw11 : ∀ w ∈ u_ws RX11 TX11 10, w ∈ mc_ws := by
  have h : ((u_ws RX11 TX11 10).zip [346, 348, 350, 352, 354, 356, 358, 360, 362, 364]).all (fun q => mc_has q.2 q.1) = true := by decide +kernel
  intro w hw
  obtain ⟨i, hi⟩ := List.getElem?_of_mem hw
  have hl : i < 10 := by have := (List.getElem?_eq_some_iff.mp hi).1; simpa [u_ws] using this
  have hz : ((u_ws RX11 TX11 10).zip [346, 348, 350, 352, 354, 356, 358, 360, 362, 364])[i]? = some (w, ([346, 348, 350, 352, 354, 356, 358, 360, 362, 364] : List Nat)[i]?.getD 0) := by
    rw [List.getElem?_zip_eq_some]
    exact ⟨hi, by rw [List.getElem?_eq_getElem (by simpa using hl)]; rfl⟩
  exact mc_has_in (List.all_eq_true.mp h _ (List.mem_of_getElem? hz))
theorem cw12 : ∀ w ∈ u_ws RX12 TX12 30, w ∈ mc_ws := by
  have h : ((u_ws RX12 TX12 30).zip [1025, 1027, 1029, 1031, 1033, 1035, 1037, 1039, 1041, 1043, 1045, 1047, 1049, 1051, 1053, 1055, 1057, 1059, 1061, 1063, 1065, 1067, 1069, 1071, 1073, 1075, 1077, 1079, 1081, 1083]).all (fun q => mc_has q.2 q.1) = true := by decide +kernel
  intro w hw
  obtain ⟨i, hi⟩ := List.getElem?_of_mem hw
  have hl : i < 30 := by have := (List.getElem?_eq_some_iff.mp hi).1; simpa [u_ws] using this
  have hz : ((u_ws RX12 TX12 30).zip [1025, 1027, 1029, 1031, 1033, 1035, 1037, 1039, 1041, 1043, 1045, 1047, 1049, 1051, 1053, 1055, 1057, 1059, 1061, 1063, 1065, 1067, 1069, 1071, 1073, 1075, 1077, 1079, 1081, 1083])[i]? = some (w, ([1025, 1027, 1029, 1031, 1033, 1035, 1037, 1039, 1041, 1043, 1045, 1047, 1049, 1051, 1053, 1055, 1057, 1059, 1061, 1063, 1065, 1067, 1069, 1071, 1073, 1075, 1077, 1079, 1081, 1083] : List Nat)[i]?.getD 0) := by
    rw [List.getElem?_zip_eq_some]
    exact ⟨hi, by rw [List.getElem?_eq_getElem (by simpa using hl)]; rfl⟩
  exact mc_has_in (List.all_eq_true.mp h _ (List.mem_of_getElem? hz))
