theorem qW_lay (C : String) (T : u_T) (ps : List Nat) (h : (List.range ps.length).all (fun k => decide (lw_tbl[ps.getD k 0]? = some (u_lay C T k)) && goodWord (u_lay C T k)) = true) (k : Nat) (hk : k < ps.length) : u_lay C T k ∈ qW := by
  have h1 := List.all_eq_true.mp h k (List.mem_range.mpr hk)
  simp only [Bool.and_eq_true, decide_eq_true_eq] at h1
  exact qW_mem h1.1 h1.2
theorem iqX0 : ∀ w ∈ u_ws RX0 TX0 10, w ∈ qW := by
  intro w hw
  obtain ⟨k, hk, rfl⟩ := List.mem_map.mp hw
  have hk := List.mem_range.mp hk
  exact qW_lay RX0 TX0 [122, 124, 126, 128, 130, 132, 134, 136, 138, 140] (by decide +kernel) k hk
theorem vqX0 : vwCl[0]? = some (RX0, TX0, 10) := rfl
theorem iqX1 : ∀ w ∈ u_ws RX1 TX1 4, w ∈ qW := by
  intro w hw
  obtain ⟨k, hk, rfl⟩ := List.mem_map.mp hw
  have hk := List.mem_range.mp hk
  exact qW_lay RX1 TX1 [300, 302, 304, 306] (by decide +kernel) k hk
theorem vqX1 : vwCl[1]? = some (RX1, TX1, 4) := rfl
theorem iqX2 : ∀ w ∈ u_ws RX2 TX2 3, w ∈ qW := by
  intro w hw
  obtain ⟨k, hk, rfl⟩ := List.mem_map.mp hw
  have hk := List.mem_range.mp hk
  exact qW_lay RX2 TX2 [282, 284, 286] (by decide +kernel) k hk
theorem vqX2 : vwCl[2]? = some (RX2, TX2, 3) := rfl
theorem iqX3 : ∀ w ∈ u_ws RX3 TX3 8, w ∈ qW := by
  intro w hw
  obtain ⟨k, hk, rfl⟩ := List.mem_map.mp hw
  have hk := List.mem_range.mp hk
  exact qW_lay RX3 TX3 [199, 201, 203, 205, 207, 209, 211, 213] (by decide +kernel) k hk
theorem vqX3 : vwCl[3]? = some (RX3, TX3, 8) := rfl
theorem iqX4 : ∀ w ∈ u_ws RX4 TX4 2, w ∈ qW := by
  intro w hw
  obtain ⟨k, hk, rfl⟩ := List.mem_map.mp hw
  have hk := List.mem_range.mp hk
  exact qW_lay RX4 TX4 [266, 268] (by decide +kernel) k hk
theorem vqX4 : vwCl[4]? = some (RX4, TX4, 2) := rfl
theorem iqX5 : ∀ w ∈ u_ws RX5 TX5 3, w ∈ qW := by
  intro w hw
  obtain ⟨k, hk, rfl⟩ := List.mem_map.mp hw
  have hk := List.mem_range.mp hk
  exact qW_lay RX5 TX5 [233, 235, 237] (by decide +kernel) k hk
theorem vqX5 : vwCl[5]? = some (RX5, TX5, 3) := rfl
theorem iqX6 : ∀ w ∈ u_ws RX6 TX6 8, w ∈ qW := by
  intro w hw
  obtain ⟨k, hk, rfl⟩ := List.mem_map.mp hw
  have hk := List.mem_range.mp hk
  exact qW_lay RX6 TX6 [159, 161, 163, 165, 167, 169, 171, 173] (by decide +kernel) k hk
theorem vqX6 : vwCl[6]? = some (RX6, TX6, 8) := rfl
theorem iqX7 : ∀ w ∈ u_ws RX7 TX7 2, w ∈ qW := by
  intro w hw
  obtain ⟨k, hk, rfl⟩ := List.mem_map.mp hw
  have hk := List.mem_range.mp hk
  exact qW_lay RX7 TX7 [251, 253] (by decide +kernel) k hk
theorem vqX7 : vwCl[7]? = some (RX7, TX7, 2) := rfl
theorem iqX9 : ∀ w ∈ u_ws RX9 TX9 16, w ∈ qW := by
  intro w hw
  obtain ⟨k, hk, rfl⟩ := List.mem_map.mp hw
  have hk := List.mem_range.mp hk
  exact qW_lay RX9 TX9 [325, 327, 329, 331, 333, 335, 337, 339, 341, 343, 345, 347, 349, 351, 353, 355] (by decide +kernel) k hk
theorem vqX9 : vwCl[8]? = some (RX9, TX9, 16) := rfl
theorem iqX10 : ∀ w ∈ u_ws RX10 TX10 42, w ∈ qW := by
  intro w hw
  obtain ⟨k, hk, rfl⟩ := List.mem_map.mp hw
  have hk := List.mem_range.mp hk
  exact qW_lay RX10 TX10 [818, 820, 822, 824, 826, 828, 830, 832, 834, 836, 838, 840, 842, 844, 846, 848, 850, 852, 854, 856, 858, 860, 862, 864, 866, 868, 870, 872, 874, 876, 878, 880, 882, 884, 886, 888, 890, 892, 894, 896, 898, 900] (by decide +kernel) k hk
theorem vqX10 : vwCl[9]? = some (RX10, TX10, 42) := rfl
