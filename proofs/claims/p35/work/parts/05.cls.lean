/-! ===== each row of cells: its fields are among the words, their types, their names ===== -/
theorem sU0 : u_ws RX0 TX0 6 = ([2163, 2164, 2165, 2166, 2167, 2168] : List Nat).filterMap sW := by decide +kernel
theorem sU1 : u_ws RX1 TX1 6 = ([2137, 2138, 2139, 2140, 2141, 2142] : List Nat).filterMap sW := by decide +kernel
theorem sU2 : u_ws RX2 TX2 6 = ([2198, 2199, 2200, 2201, 2202, 2203] : List Nat).filterMap sW := by decide +kernel
theorem sU3 : u_ws RX3 TX3 17 = ([1102, 1104, 1106, 1108, 1110, 1112, 1114, 1116, 1118, 1120, 1122, 1124, 1126, 1128, 1130, 1132, 1134] : List Nat).filterMap sW := by decide +kernel
theorem sU4 : u_ws RX4 TX4 6 = ([2176, 2177, 2178, 2179, 2180, 2181] : List Nat).filterMap sW := by decide +kernel
theorem sU5 : u_ws RX5 TX5 6 = ([2150, 2151, 2152, 2153, 2154, 2155] : List Nat).filterMap sW := by decide +kernel
theorem sU6 : u_ws RX6 TX6 4 = ([3106, 3108, 3110, 3112] : List Nat).filterMap sW := by decide +kernel
theorem sU7 : u_ws RX7 TX7 3 = ([1043, 1045, 1047] : List Nat).filterMap sW := by decide +kernel
theorem sU8 : u_ws RX8 TX8 10 = ([1158, 1160, 1162, 1164, 1166, 1168, 1170, 1172, 1174, 1176] : List Nat).filterMap sW := by decide +kernel
theorem sU9 : u_ws RX9 TX9 6 = ([2118, 2120, 2122, 2124, 2126, 2128] : List Nat).filterMap sW := by decide +kernel
theorem sU10 : u_ws RX10 TX10 6 = ([2189, 2190, 2191, 2192, 2193, 2194] : List Nat).filterMap sW := by decide +kernel
theorem sU11 : u_ws RX11 TX11 11 = ([1190, 1192, 1194, 1196, 1198, 1200, 1202, 1204, 1206, 1208, 1210] : List Nat).filterMap sW := by decide +kernel
theorem sU12 : u_ws RX12 TX12 38 = ([5217, 5219, 5221, 5223, 5225, 5227, 5229, 5231, 5233, 5235, 6000, 6002, 6004, 6006, 6008, 6010, 6012, 6014, 6016, 6018, 6020, 6022, 6024, 6026, 6028, 6030, 6032, 6034, 6036, 6038, 6040, 6042, 6044, 6046, 6048, 6050, 6052, 6054] : List Nat).filterMap sW := by decide +kernel
theorem sU_in {ws : List Jvm.Cond} {ps : List Nat} (h : ws = ps.filterMap sW) : ∀ w ∈ ws, w ∈ sTB := by
  intro w hw
  rw [h] at hw
  obtain ⟨p, -, hp⟩ := List.mem_filterMap.mp hw
  exact sW_in hp
def sCF (ci : Nat) (q : vw_C) : Prop := (∀ w ∈ u_ws q.1 q.2.1 q.2.2, w ∈ sTB) ∧ (∀ k, k < q.2.2 → parseFieldDescriptor (q.2.1 k).2.2.1 = some (sTy ci k)) ∧ (∀ a, a < q.2.2 → ∀ b, b < q.2.2 → a ≠ b → (q.2.1 a).2.1 ≠ (q.2.1 b).2.1)
theorem sCF_all : ∀ (ci : Nat) (q : vw_C), vwCl[ci]? = some q → sCF ci q := by
  intro ci q h
  match ci, h with
  | 0, h => cases h; exact ⟨sU_in sU0, tyX0_ok, nmX0⟩
  | 1, h => cases h; exact ⟨sU_in sU1, tyX1_ok, nmX1⟩
  | 2, h => cases h; exact ⟨sU_in sU2, tyX2_ok, nmX2⟩
  | 3, h => cases h; exact ⟨sU_in sU3, tyX3_ok, nmX3⟩
  | 4, h => cases h; exact ⟨sU_in sU4, tyX4_ok, nmX4⟩
  | 5, h => cases h; exact ⟨sU_in sU5, tyX5_ok, nmX5⟩
  | 6, h => cases h; exact ⟨sU_in sU6, tyX6_ok, nmX6⟩
  | 7, h => cases h; exact ⟨sU_in sU7, tyX7_ok, nmX7⟩
  | 8, h => cases h; exact ⟨sU_in sU8, tyX8_ok, nmX8⟩
  | 9, h => cases h; exact ⟨sU_in sU9, tyX9_ok, nmX9⟩
  | 10, h => cases h; exact ⟨sU_in sU10, tyX10_ok, nmX10⟩
  | 11, h => cases h; exact ⟨sU_in sU11, tyX11_ok, nmX11⟩
  | 12, h => cases h; exact ⟨sU_in sU12, tyX12_ok, nmX12⟩
  | k + 13, h => simp [vwCl] at h
