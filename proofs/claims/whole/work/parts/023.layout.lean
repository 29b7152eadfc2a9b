def layC : List Shp := [.inl (7, [some 1, some 20, some 39, some 49, some 52, some 55, some 58, some 67, some 68, some 69, none]),
  .inl (6, [some 2, some 12, some 14, some 16, some 18, none]),
  .inl (0, [some 3, some 4, some 5, some 6, some 7, some 8, some 9, some 10, some 11, none, none, none, none]),
  .inr (0, 16),
  .inr (0, 16),
  .inr (0, 6),
  .inr (0, 8),
  .inr (0, 8),
  .inr (0, 8),
  .inr (0, 8),
  .inr (0, 8),
  .inr (0, 8),
  .inl (3, [some 13, none]),
  .inr (0, 50),
  .inl (3, [some 15, none]),
  .inr (0, 20),
  .inl (3, [some 17, none]),
  .inr (0, 50),
  .inl (3, [some 19, none]),
  .inr (0, 50),
  .inl (6, [some 21, some 31, some 33, some 35, some 37, none]),
  .inl (0, [some 22, some 23, some 24, some 25, some 26, some 27, some 28, some 29, some 30, none, none, none, none]),
  .inr (0, 16),
  .inr (0, 16),
  .inr (0, 6),
  .inr (0, 8),
  .inr (0, 8),
  .inr (0, 8),
  .inr (0, 8),
  .inr (0, 8),
  .inr (0, 8),
  .inl (3, [some 32, none]),
  .inr (0, 50),
  .inl (3, [some 34, none]),
  .inr (0, 20),
  .inl (3, [some 36, none]),
  .inr (0, 50),
  .inl (3, [some 38, none]),
  .inr (0, 50),
  .inl (0, [some 40, some 41, some 42, some 43, some 44, some 45, some 46, some 47, some 48, none, none, none, none]),
  .inr (0, 16),
  .inr (0, 16),
  .inr (0, 6),
  .inr (0, 8),
  .inr (0, 8),
  .inr (0, 8),
  .inr (0, 8),
  .inr (0, 8),
  .inr (0, 8),
  .inl (1, [some 16, some 18, some 50, some 51]),
  .inr (0, 50),
  .inr (1, 1800),
  .inl (2, [some 53, some 12, none, none, none]),
  .inl (3, [some 54, none]),
  .inr (0, 50),
  .inl (5, [some 56, none, none, none]),
  .inl (3, [some 57, none]),
  .inr (0, 40),
  .inr (61, 4),
  .inl (4, [some 60, none, none]),
  .inr (0, 40),
  .inl (4, [some 62, none, none]),
  .inr (0, 40),
  .inl (4, [some 64, none, none]),
  .inr (0, 40),
  .inl (4, [some 66, none, none]),
  .inr (0, 40),
  .inr (0, 6),
  .inr (0, 41),
  .inr (0, 10)]
theorem lC_0 : layC[0]? = some (.inl (7, [some 1, some 20, some 39, some 49, some 52, some 55, some 58, some 67, some 68, some 69, none])) := rfl
theorem lC_1 : layC[1]? = some (.inl (6, [some 2, some 12, some 14, some 16, some 18, none])) := rfl
theorem lC_2 : layC[2]? = some (.inl (0, [some 3, some 4, some 5, some 6, some 7, some 8, some 9, some 10, some 11, none, none, none, none])) := rfl
theorem lC_3 : layC[3]? = some (.inr (0, 16)) := rfl
theorem lC_4 : layC[4]? = some (.inr (0, 16)) := rfl
theorem lC_5 : layC[5]? = some (.inr (0, 6)) := rfl
theorem lC_6 : layC[6]? = some (.inr (0, 8)) := rfl
theorem lC_7 : layC[7]? = some (.inr (0, 8)) := rfl
theorem lC_8 : layC[8]? = some (.inr (0, 8)) := rfl
theorem lC_9 : layC[9]? = some (.inr (0, 8)) := rfl
theorem lC_10 : layC[10]? = some (.inr (0, 8)) := rfl
theorem lC_11 : layC[11]? = some (.inr (0, 8)) := rfl
theorem lC_12 : layC[12]? = some (.inl (3, [some 13, none])) := rfl
theorem lC_13 : layC[13]? = some (.inr (0, 50)) := rfl
theorem lC_14 : layC[14]? = some (.inl (3, [some 15, none])) := rfl
theorem lC_15 : layC[15]? = some (.inr (0, 20)) := rfl
theorem lC_16 : layC[16]? = some (.inl (3, [some 17, none])) := rfl
theorem lC_17 : layC[17]? = some (.inr (0, 50)) := rfl
theorem lC_18 : layC[18]? = some (.inl (3, [some 19, none])) := rfl
theorem lC_19 : layC[19]? = some (.inr (0, 50)) := rfl
theorem lC_20 : layC[20]? = some (.inl (6, [some 21, some 31, some 33, some 35, some 37, none])) := rfl
theorem lC_21 : layC[21]? = some (.inl (0, [some 22, some 23, some 24, some 25, some 26, some 27, some 28, some 29, some 30, none, none, none, none])) := rfl
theorem lC_22 : layC[22]? = some (.inr (0, 16)) := rfl
theorem lC_23 : layC[23]? = some (.inr (0, 16)) := rfl
theorem lC_24 : layC[24]? = some (.inr (0, 6)) := rfl
theorem lC_25 : layC[25]? = some (.inr (0, 8)) := rfl
theorem lC_26 : layC[26]? = some (.inr (0, 8)) := rfl
theorem lC_27 : layC[27]? = some (.inr (0, 8)) := rfl
theorem lC_28 : layC[28]? = some (.inr (0, 8)) := rfl
theorem lC_29 : layC[29]? = some (.inr (0, 8)) := rfl
theorem lC_30 : layC[30]? = some (.inr (0, 8)) := rfl
theorem lC_31 : layC[31]? = some (.inl (3, [some 32, none])) := rfl
theorem lC_32 : layC[32]? = some (.inr (0, 50)) := rfl
theorem lC_33 : layC[33]? = some (.inl (3, [some 34, none])) := rfl
theorem lC_34 : layC[34]? = some (.inr (0, 20)) := rfl
theorem lC_35 : layC[35]? = some (.inl (3, [some 36, none])) := rfl
theorem lC_36 : layC[36]? = some (.inr (0, 50)) := rfl
theorem lC_37 : layC[37]? = some (.inl (3, [some 38, none])) := rfl
theorem lC_38 : layC[38]? = some (.inr (0, 50)) := rfl
theorem lC_39 : layC[39]? = some (.inl (0, [some 40, some 41, some 42, some 43, some 44, some 45, some 46, some 47, some 48, none, none, none, none])) := rfl
theorem lC_40 : layC[40]? = some (.inr (0, 16)) := rfl
theorem lC_41 : layC[41]? = some (.inr (0, 16)) := rfl
theorem lC_42 : layC[42]? = some (.inr (0, 6)) := rfl
theorem lC_43 : layC[43]? = some (.inr (0, 8)) := rfl
theorem lC_44 : layC[44]? = some (.inr (0, 8)) := rfl
theorem lC_45 : layC[45]? = some (.inr (0, 8)) := rfl
theorem lC_46 : layC[46]? = some (.inr (0, 8)) := rfl
theorem lC_47 : layC[47]? = some (.inr (0, 8)) := rfl
theorem lC_48 : layC[48]? = some (.inr (0, 8)) := rfl
theorem lC_49 : layC[49]? = some (.inl (1, [some 16, some 18, some 50, some 51])) := rfl
theorem lC_50 : layC[50]? = some (.inr (0, 50)) := rfl
theorem lC_51 : layC[51]? = some (.inr (1, 1800)) := rfl
theorem lC_52 : layC[52]? = some (.inl (2, [some 53, some 12, none, none, none])) := rfl
theorem lC_53 : layC[53]? = some (.inl (3, [some 54, none])) := rfl
theorem lC_54 : layC[54]? = some (.inr (0, 50)) := rfl
theorem lC_55 : layC[55]? = some (.inl (5, [some 56, none, none, none])) := rfl
theorem lC_56 : layC[56]? = some (.inl (3, [some 57, none])) := rfl
theorem lC_57 : layC[57]? = some (.inr (0, 40)) := rfl
theorem lC_58 : layC[58]? = some (.inr (61, 4)) := rfl
theorem lC_59 : layC[59]? = some (.inl (4, [some 60, none, none])) := rfl
theorem lC_60 : layC[60]? = some (.inr (0, 40)) := rfl
theorem lC_61 : layC[61]? = some (.inl (4, [some 62, none, none])) := rfl
theorem lC_62 : layC[62]? = some (.inr (0, 40)) := rfl
theorem lC_63 : layC[63]? = some (.inl (4, [some 64, none, none])) := rfl
theorem lC_64 : layC[64]? = some (.inr (0, 40)) := rfl
theorem lC_65 : layC[65]? = some (.inl (4, [some 66, none, none])) := rfl
theorem lC_66 : layC[66]? = some (.inr (0, 40)) := rfl
theorem lC_67 : layC[67]? = some (.inr (0, 6)) := rfl
theorem lC_68 : layC[68]? = some (.inr (0, 41)) := rfl
theorem lC_69 : layC[69]? = some (.inr (0, 10)) := rfl
def layM : List Shp := [.inl (8, [some 1, some 2, some 3, some 4, none, none, some 5, none, none, none, none, none, none, none, none, some 6, none, some 7, some 8, some 9, some 10, some 11, some 12, some 13, none, none, none, none]),
  .inr (0, 257),
  .inr (0, 257),
  .inr (0, 257),
  .inr (0, 257),
  .inr (0, 6),
  .inr (0, 2000),
  .inr (0, 4),
  .inr (0, 4),
  .inr (0, 160),
  .inr (0, 40),
  .inr (0, 41),
  .inr (0, 10),
  .inr (0, 40)]
theorem lM_0 : layM[0]? = some (.inl (8, [some 1, some 2, some 3, some 4, none, none, some 5, none, none, none, none, none, none, none, none, some 6, none, some 7, some 8, some 9, some 10, some 11, some 12, some 13, none, none, none, none])) := rfl
theorem lM_1 : layM[1]? = some (.inr (0, 257)) := rfl
theorem lM_2 : layM[2]? = some (.inr (0, 257)) := rfl
theorem lM_3 : layM[3]? = some (.inr (0, 257)) := rfl
theorem lM_4 : layM[4]? = some (.inr (0, 257)) := rfl
theorem lM_5 : layM[5]? = some (.inr (0, 6)) := rfl
theorem lM_6 : layM[6]? = some (.inr (0, 2000)) := rfl
theorem lM_7 : layM[7]? = some (.inr (0, 4)) := rfl
theorem lM_8 : layM[8]? = some (.inr (0, 4)) := rfl
theorem lM_9 : layM[9]? = some (.inr (0, 160)) := rfl
theorem lM_10 : layM[10]? = some (.inr (0, 40)) := rfl
theorem lM_11 : layM[11]? = some (.inr (0, 41)) := rfl
theorem lM_12 : layM[12]? = some (.inr (0, 10)) := rfl
theorem lM_13 : layM[13]? = some (.inr (0, 40)) := rfl
def isH (b : Nat) : Prop := b = 2 ∨ b = 21 ∨ b = 39
def isR (b : Nat) : Prop := b = 12 ∨ b = 14 ∨ b = 16 ∨ b = 18 ∨ b = 31 ∨ b = 33 ∨ b = 35 ∨ b = 37 ∨ b = 53 ∨ b = 56
def isS (b : Nat) : Prop := b = 59 ∨ b = 61 ∨ b = 63 ∨ b = 65
def isW (b : Nat) : Prop := b = 1 ∨ b = 20
theorem lH0 {b : Nat} (h : isH b) : layC[b]? = some (.inl (0, [some (b + 1), some (b + 2), some (b + 3), some (b + 4), some (b + 5), some (b + 6), some (b + 7), some (b + 8), some (b + 9), none, none, none, none])) := by
  rcases h with rfl | rfl | rfl <;> rfl
theorem lH1 {b : Nat} (h : isH b) : layC[b + 1]? = some (.inr (0, 16)) := by
  rcases h with rfl | rfl | rfl <;> rfl
theorem lH2 {b : Nat} (h : isH b) : layC[b + 2]? = some (.inr (0, 16)) := by
  rcases h with rfl | rfl | rfl <;> rfl
theorem lH3 {b : Nat} (h : isH b) : layC[b + 3]? = some (.inr (0, 6)) := by
  rcases h with rfl | rfl | rfl <;> rfl
theorem lH4 {b : Nat} (h : isH b) : layC[b + 4]? = some (.inr (0, 8)) := by
  rcases h with rfl | rfl | rfl <;> rfl
theorem lH5 {b : Nat} (h : isH b) : layC[b + 5]? = some (.inr (0, 8)) := by
  rcases h with rfl | rfl | rfl <;> rfl
theorem lH6 {b : Nat} (h : isH b) : layC[b + 6]? = some (.inr (0, 8)) := by
  rcases h with rfl | rfl | rfl <;> rfl
theorem lH7 {b : Nat} (h : isH b) : layC[b + 7]? = some (.inr (0, 8)) := by
  rcases h with rfl | rfl | rfl <;> rfl
theorem lH8 {b : Nat} (h : isH b) : layC[b + 8]? = some (.inr (0, 8)) := by
  rcases h with rfl | rfl | rfl <;> rfl
theorem lH9 {b : Nat} (h : isH b) : layC[b + 9]? = some (.inr (0, 8)) := by
  rcases h with rfl | rfl | rfl <;> rfl
def rl (b : Nat) : Nat := if b = 14 then 20 else if b = 33 then 20 else if b = 56 then 40 else 50
theorem lR0 {b : Nat} (h : isR b) : layC[b]? = some (.inl (3, [some (b + 1), none])) := by
  rcases h with rfl | rfl | rfl | rfl | rfl | rfl | rfl | rfl | rfl | rfl <;> rfl
theorem lR1 {b : Nat} (h : isR b) : layC[b + 1]? = some (.inr (0, rl b)) := by
  rcases h with rfl | rfl | rfl | rfl | rfl | rfl | rfl | rfl | rfl | rfl <;> rfl
theorem lS0 {b : Nat} (h : isS b) : layC[b]? = some (.inl (4, [some (b + 1), none, none])) := by
  rcases h with rfl | rfl | rfl | rfl <;> rfl
theorem lS1 {b : Nat} (h : isS b) : layC[b + 1]? = some (.inr (0, 40)) := by
  rcases h with rfl | rfl | rfl | rfl <;> rfl
theorem lW0 {b : Nat} (h : isW b) : layC[b]? = some (.inl (6, [some (b + 1), some (b + 11), some (b + 13), some (b + 15), some (b + 17), none])) := by
  rcases h with rfl | rfl <;> rfl
theorem wH {b : Nat} (h : isW b) : isH (b + 1) := by
  rcases h with rfl | rfl <;> simp [isH]
theorem wR11 {b : Nat} (h : isW b) : isR (b + 11) := by
  rcases h with rfl | rfl <;> simp [isR]
theorem wR13 {b : Nat} (h : isW b) : isR (b + 13) := by
  rcases h with rfl | rfl <;> simp [isR]
theorem wR15 {b : Nat} (h : isW b) : isR (b + 15) := by
  rcases h with rfl | rfl <;> simp [isR]
theorem wR17 {b : Nat} (h : isW b) : isR (b + 17) := by
  rcases h with rfl | rfl <;> simp [isR]
theorem hH_2 : isH 2 := by simp [isH]
theorem hH_21 : isH 21 := by simp [isH]
theorem hH_39 : isH 39 := by simp [isH]
theorem hR_12 : isR 12 := by simp [isR]
theorem hR_14 : isR 14 := by simp [isR]
theorem hR_16 : isR 16 := by simp [isR]
theorem hR_18 : isR 18 := by simp [isR]
theorem hR_31 : isR 31 := by simp [isR]
theorem hR_33 : isR 33 := by simp [isR]
theorem hR_35 : isR 35 := by simp [isR]
theorem hR_37 : isR 37 := by simp [isR]
theorem hR_53 : isR 53 := by simp [isR]
theorem hR_56 : isR 56 := by simp [isR]
theorem hS_59 : isS 59 := by simp [isS]
theorem hS_61 : isS 61 := by simp [isS]
theorem hS_63 : isS 63 := by simp [isS]
theorem hS_65 : isS 65 := by simp [isS]
theorem hW_1 : isW 1 := by simp [isW]
theorem hW_20 : isW 20 := by simp [isW]
theorem hS_of {i : Int32} (h : vp_in i 4) : isS (59 + 2 * i.toNatClampNeg) := by
  have h2 : i.toNatClampNeg < 4 := Nat.not_le.mp fun q => h (Or.inr q)
  rcases (show i.toNatClampNeg = 0 ∨ i.toNatClampNeg = 1 ∨ i.toNatClampNeg = 2 ∨ i.toNatClampNeg = 3 by omega) with e | e | e | e <;> rw [e] <;> simp [isS]
theorem v_X0 : vwCl[0]? = some (RX0, TX0, 13) := rfl
theorem i_X0 : ∀ w ∈ u_ws RX0 TX0 13, w ∈ gw := by
  have h : (u_ws RX0 TX0 13).all (fun w => goodWord w && lw_tbl.contains w) = true := by decide +kernel
  intro w hw
  have h1 := List.all_eq_true.mp h w hw
  rw [Bool.and_eq_true] at h1
  exact List.mem_filter.mpr ⟨List.contains_iff_mem.mp h1.2, h1.1⟩
theorem v_X2 : vwCl[1]? = some (RX2, TX2, 4) := rfl
theorem i_X2 : ∀ w ∈ u_ws RX2 TX2 4, w ∈ gw := by
  have h : (u_ws RX2 TX2 4).all (fun w => goodWord w && lw_tbl.contains w) = true := by decide +kernel
  intro w hw
  have h1 := List.all_eq_true.mp h w hw
  rw [Bool.and_eq_true] at h1
  exact List.mem_filter.mpr ⟨List.contains_iff_mem.mp h1.2, h1.1⟩
theorem v_X3 : vwCl[2]? = some (RX3, TX3, 5) := rfl
theorem i_X3 : ∀ w ∈ u_ws RX3 TX3 5, w ∈ gw := by
  have h : (u_ws RX3 TX3 5).all (fun w => goodWord w && lw_tbl.contains w) = true := by decide +kernel
  intro w hw
  have h1 := List.all_eq_true.mp h w hw
  rw [Bool.and_eq_true] at h1
  exact List.mem_filter.mpr ⟨List.contains_iff_mem.mp h1.2, h1.1⟩
theorem v_X4 : vwCl[3]? = some (RX4, TX4, 2) := rfl
theorem i_X4 : ∀ w ∈ u_ws RX4 TX4 2, w ∈ gw := by
  have h : (u_ws RX4 TX4 2).all (fun w => goodWord w && lw_tbl.contains w) = true := by decide +kernel
  intro w hw
  have h1 := List.all_eq_true.mp h w hw
  rw [Bool.and_eq_true] at h1
  exact List.mem_filter.mpr ⟨List.contains_iff_mem.mp h1.2, h1.1⟩
theorem v_X5 : vwCl[4]? = some (RX5, TX5, 3) := rfl
theorem i_X5 : ∀ w ∈ u_ws RX5 TX5 3, w ∈ gw := by
  have h : (u_ws RX5 TX5 3).all (fun w => goodWord w && lw_tbl.contains w) = true := by decide +kernel
  intro w hw
  have h1 := List.all_eq_true.mp h w hw
  rw [Bool.and_eq_true] at h1
  exact List.mem_filter.mpr ⟨List.contains_iff_mem.mp h1.2, h1.1⟩
theorem v_X6 : vwCl[5]? = some (RX6, TX6, 4) := rfl
theorem i_X6 : ∀ w ∈ u_ws RX6 TX6 4, w ∈ gw := by
  have h : (u_ws RX6 TX6 4).all (fun w => goodWord w && lw_tbl.contains w) = true := by decide +kernel
  intro w hw
  have h1 := List.all_eq_true.mp h w hw
  rw [Bool.and_eq_true] at h1
  exact List.mem_filter.mpr ⟨List.contains_iff_mem.mp h1.2, h1.1⟩
theorem v_X7 : vwCl[6]? = some (RX7, TX7, 6) := rfl
theorem i_X7 : ∀ w ∈ u_ws RX7 TX7 6, w ∈ gw := by
  have h : (u_ws RX7 TX7 6).all (fun w => goodWord w && lw_tbl.contains w) = true := by decide +kernel
  intro w hw
  have h1 := List.all_eq_true.mp h w hw
  rw [Bool.and_eq_true] at h1
  exact List.mem_filter.mpr ⟨List.contains_iff_mem.mp h1.2, h1.1⟩
theorem v_X8 : vwCl[7]? = some (RX8, TX8, 11) := rfl
theorem i_X8 : ∀ w ∈ u_ws RX8 TX8 11, w ∈ gw := by
  have h : (u_ws RX8 TX8 11).all (fun w => goodWord w && lw_tbl.contains w) = true := by decide +kernel
  intro w hw
  have h1 := List.all_eq_true.mp h w hw
  rw [Bool.and_eq_true] at h1
  exact List.mem_filter.mpr ⟨List.contains_iff_mem.mp h1.2, h1.1⟩
theorem v_X9 : vwCl[8]? = some (RX9, TX9, 28) := rfl
theorem i_X9 : ∀ w ∈ u_ws RX9 TX9 28, w ∈ gw := by
  have h : (u_ws RX9 TX9 28).all (fun w => goodWord w && lw_tbl.contains w) = true := by decide +kernel
  intro w hw
  have h1 := List.all_eq_true.mp h w hw
  rw [Bool.and_eq_true] at h1
  exact List.mem_filter.mpr ⟨List.contains_iff_mem.mp h1.2, h1.1⟩
theorem hS_of2 {i : Int32} {v : Nat} (h : vp_in i 4) (e : v = 59 + 2 * i.toNatClampNeg) : isS v := e ▸ hS_of h
