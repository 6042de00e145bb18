def tauC : List tg_E := [.inr (7, [some (some 1), some (some 4), some (some 7), none, some (some 11), some (some 35), some (some 23), some (some 42), some (some 49), some (some 50), some (some 51), none]), .inr (6, [some (some 2), some (some 3)]), .inl (false, 124), .inl (false, 4), .inr (4, [some (some 5), some (some 6), none]), .inl (false, 8), .inl (false, 8), .inr (5, [some (some 8), some (some 9), some (some 10)]), .inl (false, 240), .inl (false, 4), .inl (false, 4), .inr (1, [some (some 12), some (some 13), some (some 14), some (some 15), some (some 16), some (some 17), some (some 18), some (some 19), none]), .inl (true, 16), .inl (false, 16), .inl (false, 16), .inl (false, 16), .inl (false, 2), .inl (false, 2), .inl (false, 48), .inr (3, [some (some 20), some (some 21), some (some 22), none, none]), .inl (false, 8), .inl (false, 8), .inl (false, 8), .inr (1, [some (some 24), some (some 25), some (some 26), some (some 27), some (some 28), some (some 29), some (some 30), some (some 31), none]), .inl (true, 16), .inl (false, 16), .inl (false, 16), .inl (false, 16), .inl (false, 2), .inl (false, 2), .inl (false, 48), .inr (3, [some (some 32), some (some 33), some (some 34), none, none]), .inl (false, 8), .inl (false, 8), .inl (false, 8), .inr (2, [some (some 36), some (some 37), some (some 38), some (some 39), some (some 40), none, none, some (some 41), none, none, none, none]), .inl (false, 24), .inl (false, 24), .inl (false, 48), .inl (false, 384), .inl (false, 384), .inl (false, 16), .inr (2, [some (some 43), some (some 44), some (some 45), some (some 46), some (some 47), none, none, some (some 48), none, none, none, none]), .inl (false, 24), .inl (false, 24), .inl (false, 48), .inl (false, 384), .inl (false, 384), .inl (false, 16), .inr (0, [none, none, none, none]), .inl (false, 240), .inl (false, 256)]
def tauR : List tg_E := [.inr (8, [some (some 1), some (some 2), some (some 3), some (some 4), some (some 5), some (some 6), some (some 7), some (some 8), none, none, some (some 9), some (some 10), some (some 11), some (some 12), none, some (some 13), none, some (some 14), none, none, none, none, none, none, none, some (some 15), some (some 16), some (some 17), some (some 18), some (some 19), some (some 20), some (some 21), some (some 22), some (some 23), none, none, some (some 24), none, some (some 25), some (some 26), some (some 27), some (some 28), some (some 29), some (some 30), some (some 31), some (some 32), none]), .inl (false, 4), .inl (false, 124), .inl (false, 2), .inl (false, 17), .inl (false, 17), .inl (false, 17), .inl (false, 2), .inl (false, 48), .inl (false, 8), .inl (false, 8), .inl (false, 8), .inl (false, 48), .inl (false, 16), .inl (false, 2), .inl (false, 16), .inl (false, 16), .inl (false, 16), .inl (false, 2), .inl (false, 24), .inl (false, 24), .inl (false, 48), .inl (false, 384), .inl (false, 384), .inl (false, 2), .inl (false, 8), .inl (false, 8), .inl (false, 240), .inl (true, 4), .inl (false, 4), .inl (false, 4), .inl (false, 240), .inl (false, 60)]
theorem wl_X0_0 : u_lay RX0 TX0 0 ∈ tg_gG := tg_mem (List.mem_of_getElem? (i := 284) (by decide +kernel)) (by decide +kernel)
theorem wl_X0_1 : u_lay RX0 TX0 1 ∈ tg_gG := tg_mem (List.mem_of_getElem? (i := 286) (by decide +kernel)) (by decide +kernel)
theorem wl_X0_2 : u_lay RX0 TX0 2 ∈ tg_gG := tg_mem (List.mem_of_getElem? (i := 288) (by decide +kernel)) (by decide +kernel)
theorem wl_X0_3 : u_lay RX0 TX0 3 ∈ tg_gG := tg_mem (List.mem_of_getElem? (i := 290) (by decide +kernel)) (by decide +kernel)
theorem wl_X0 : ∀ w ∈ u_ws RX0 TX0 4, w ∈ tg_gG := by
  intro w h
  obtain ⟨k, hk, rfl⟩ := List.mem_map.mp h
  have hk := List.mem_range.mp hk
  match k, hk with
  | 0, _ => exact wl_X0_0
  | 1, _ => exact wl_X0_1
  | 2, _ => exact wl_X0_2
  | 3, _ => exact wl_X0_3
  | j + 4, h => exact absurd h (by omega)
theorem cl_X0 : tg_Cl 0 RX0 TX0 4 tyX0 := ⟨rfl, wl_X0, tyX0_ok, nmX0⟩
theorem wl_X1_0 : u_lay RX1 TX1 0 ∈ tg_gG := tg_mem (List.mem_of_getElem? (i := 201) (by decide +kernel)) (by decide +kernel)
theorem wl_X1_1 : u_lay RX1 TX1 1 ∈ tg_gG := tg_mem (List.mem_of_getElem? (i := 203) (by decide +kernel)) (by decide +kernel)
theorem wl_X1_2 : u_lay RX1 TX1 2 ∈ tg_gG := tg_mem (List.mem_of_getElem? (i := 205) (by decide +kernel)) (by decide +kernel)
theorem wl_X1_3 : u_lay RX1 TX1 3 ∈ tg_gG := tg_mem (List.mem_of_getElem? (i := 207) (by decide +kernel)) (by decide +kernel)
theorem wl_X1_4 : u_lay RX1 TX1 4 ∈ tg_gG := tg_mem (List.mem_of_getElem? (i := 209) (by decide +kernel)) (by decide +kernel)
theorem wl_X1_5 : u_lay RX1 TX1 5 ∈ tg_gG := tg_mem (List.mem_of_getElem? (i := 211) (by decide +kernel)) (by decide +kernel)
theorem wl_X1_6 : u_lay RX1 TX1 6 ∈ tg_gG := tg_mem (List.mem_of_getElem? (i := 213) (by decide +kernel)) (by decide +kernel)
theorem wl_X1_7 : u_lay RX1 TX1 7 ∈ tg_gG := tg_mem (List.mem_of_getElem? (i := 215) (by decide +kernel)) (by decide +kernel)
theorem wl_X1_8 : u_lay RX1 TX1 8 ∈ tg_gG := tg_mem (List.mem_of_getElem? (i := 217) (by decide +kernel)) (by decide +kernel)
theorem wl_X1 : ∀ w ∈ u_ws RX1 TX1 9, w ∈ tg_gG := by
  intro w h
  obtain ⟨k, hk, rfl⟩ := List.mem_map.mp h
  have hk := List.mem_range.mp hk
  match k, hk with
  | 0, _ => exact wl_X1_0
  | 1, _ => exact wl_X1_1
  | 2, _ => exact wl_X1_2
  | 3, _ => exact wl_X1_3
  | 4, _ => exact wl_X1_4
  | 5, _ => exact wl_X1_5
  | 6, _ => exact wl_X1_6
  | 7, _ => exact wl_X1_7
  | 8, _ => exact wl_X1_8
  | j + 9, h => exact absurd h (by omega)
theorem cl_X1 : tg_Cl 1 RX1 TX1 9 tyX1 := ⟨rfl, wl_X1, tyX1_ok, nmX1⟩
theorem wl_X2_0 : u_lay RX2 TX2 0 ∈ tg_gG := tg_mem (List.mem_of_getElem? (i := 246) (by decide +kernel)) (by decide +kernel)
theorem wl_X2_1 : u_lay RX2 TX2 1 ∈ tg_gG := tg_mem (List.mem_of_getElem? (i := 248) (by decide +kernel)) (by decide +kernel)
theorem wl_X2_2 : u_lay RX2 TX2 2 ∈ tg_gG := tg_mem (List.mem_of_getElem? (i := 250) (by decide +kernel)) (by decide +kernel)
theorem wl_X2_3 : u_lay RX2 TX2 3 ∈ tg_gG := tg_mem (List.mem_of_getElem? (i := 252) (by decide +kernel)) (by decide +kernel)
theorem wl_X2_4 : u_lay RX2 TX2 4 ∈ tg_gG := tg_mem (List.mem_of_getElem? (i := 254) (by decide +kernel)) (by decide +kernel)
theorem wl_X2_5 : u_lay RX2 TX2 5 ∈ tg_gG := tg_mem (List.mem_of_getElem? (i := 256) (by decide +kernel)) (by decide +kernel)
theorem wl_X2_6 : u_lay RX2 TX2 6 ∈ tg_gG := tg_mem (List.mem_of_getElem? (i := 258) (by decide +kernel)) (by decide +kernel)
theorem wl_X2_7 : u_lay RX2 TX2 7 ∈ tg_gG := tg_mem (List.mem_of_getElem? (i := 260) (by decide +kernel)) (by decide +kernel)
theorem wl_X2_8 : u_lay RX2 TX2 8 ∈ tg_gG := tg_mem (List.mem_of_getElem? (i := 262) (by decide +kernel)) (by decide +kernel)
theorem wl_X2_9 : u_lay RX2 TX2 9 ∈ tg_gG := tg_mem (List.mem_of_getElem? (i := 264) (by decide +kernel)) (by decide +kernel)
theorem wl_X2_10 : u_lay RX2 TX2 10 ∈ tg_gG := tg_mem (List.mem_of_getElem? (i := 266) (by decide +kernel)) (by decide +kernel)
theorem wl_X2_11 : u_lay RX2 TX2 11 ∈ tg_gG := tg_mem (List.mem_of_getElem? (i := 268) (by decide +kernel)) (by decide +kernel)
theorem wl_X2 : ∀ w ∈ u_ws RX2 TX2 12, w ∈ tg_gG := by
  intro w h
  obtain ⟨k, hk, rfl⟩ := List.mem_map.mp h
  have hk := List.mem_range.mp hk
  match k, hk with
  | 0, _ => exact wl_X2_0
  | 1, _ => exact wl_X2_1
  | 2, _ => exact wl_X2_2
  | 3, _ => exact wl_X2_3
  | 4, _ => exact wl_X2_4
  | 5, _ => exact wl_X2_5
  | 6, _ => exact wl_X2_6
  | 7, _ => exact wl_X2_7
  | 8, _ => exact wl_X2_8
  | 9, _ => exact wl_X2_9
  | 10, _ => exact wl_X2_10
  | 11, _ => exact wl_X2_11
  | j + 12, h => exact absurd h (by omega)
theorem cl_X2 : tg_Cl 2 RX2 TX2 12 tyX2 := ⟨rfl, wl_X2, tyX2_ok, nmX2⟩
theorem wl_X3_0 : u_lay RX3 TX3 0 ∈ tg_gG := tg_mem (List.mem_of_getElem? (i := 163) (by decide +kernel)) (by decide +kernel)
theorem wl_X3_1 : u_lay RX3 TX3 1 ∈ tg_gG := tg_mem (List.mem_of_getElem? (i := 165) (by decide +kernel)) (by decide +kernel)
theorem wl_X3_2 : u_lay RX3 TX3 2 ∈ tg_gG := tg_mem (List.mem_of_getElem? (i := 167) (by decide +kernel)) (by decide +kernel)
theorem wl_X3_3 : u_lay RX3 TX3 3 ∈ tg_gG := tg_mem (List.mem_of_getElem? (i := 169) (by decide +kernel)) (by decide +kernel)
theorem wl_X3_4 : u_lay RX3 TX3 4 ∈ tg_gG := tg_mem (List.mem_of_getElem? (i := 171) (by decide +kernel)) (by decide +kernel)
theorem wl_X3 : ∀ w ∈ u_ws RX3 TX3 5, w ∈ tg_gG := by
  intro w h
  obtain ⟨k, hk, rfl⟩ := List.mem_map.mp h
  have hk := List.mem_range.mp hk
  match k, hk with
  | 0, _ => exact wl_X3_0
  | 1, _ => exact wl_X3_1
  | 2, _ => exact wl_X3_2
  | 3, _ => exact wl_X3_3
  | 4, _ => exact wl_X3_4
  | j + 5, h => exact absurd h (by omega)
theorem cl_X3 : tg_Cl 3 RX3 TX3 5 tyX3 := ⟨rfl, wl_X3, tyX3_ok, nmX3⟩
theorem wl_X4_0 : u_lay RX4 TX4 0 ∈ tg_gG := tg_mem (List.mem_of_getElem? (i := 118) (by decide +kernel)) (by decide +kernel)
theorem wl_X4_1 : u_lay RX4 TX4 1 ∈ tg_gG := tg_mem (List.mem_of_getElem? (i := 120) (by decide +kernel)) (by decide +kernel)
theorem wl_X4_2 : u_lay RX4 TX4 2 ∈ tg_gG := tg_mem (List.mem_of_getElem? (i := 122) (by decide +kernel)) (by decide +kernel)
theorem wl_X4 : ∀ w ∈ u_ws RX4 TX4 3, w ∈ tg_gG := by
  intro w h
  obtain ⟨k, hk, rfl⟩ := List.mem_map.mp h
  have hk := List.mem_range.mp hk
  match k, hk with
  | 0, _ => exact wl_X4_0
  | 1, _ => exact wl_X4_1
  | 2, _ => exact wl_X4_2
  | j + 3, h => exact absurd h (by omega)
theorem cl_X4 : tg_Cl 4 RX4 TX4 3 tyX4 := ⟨rfl, wl_X4, tyX4_ok, nmX4⟩
theorem wl_X5_0 : u_lay RX5 TX5 0 ∈ tg_gG := tg_mem (List.mem_of_getElem? (i := 134) (by decide +kernel)) (by decide +kernel)
theorem wl_X5_1 : u_lay RX5 TX5 1 ∈ tg_gG := tg_mem (List.mem_of_getElem? (i := 136) (by decide +kernel)) (by decide +kernel)
theorem wl_X5_2 : u_lay RX5 TX5 2 ∈ tg_gG := tg_mem (List.mem_of_getElem? (i := 138) (by decide +kernel)) (by decide +kernel)
theorem wl_X5 : ∀ w ∈ u_ws RX5 TX5 3, w ∈ tg_gG := by
  intro w h
  obtain ⟨k, hk, rfl⟩ := List.mem_map.mp h
  have hk := List.mem_range.mp hk
  match k, hk with
  | 0, _ => exact wl_X5_0
  | 1, _ => exact wl_X5_1
  | 2, _ => exact wl_X5_2
  | j + 3, h => exact absurd h (by omega)
theorem cl_X5 : tg_Cl 5 RX5 TX5 3 tyX5 := ⟨rfl, wl_X5, tyX5_ok, nmX5⟩
theorem wl_X6_0 : u_lay RX6 TX6 0 ∈ tg_gG := tg_mem (List.mem_of_getElem? (i := 102) (by decide +kernel)) (by decide +kernel)
theorem wl_X6_1 : u_lay RX6 TX6 1 ∈ tg_gG := tg_mem (List.mem_of_getElem? (i := 104) (by decide +kernel)) (by decide +kernel)
theorem wl_X6 : ∀ w ∈ u_ws RX6 TX6 2, w ∈ tg_gG := by
  intro w h
  obtain ⟨k, hk, rfl⟩ := List.mem_map.mp h
  have hk := List.mem_range.mp hk
  match k, hk with
  | 0, _ => exact wl_X6_0
  | 1, _ => exact wl_X6_1
  | j + 2, h => exact absurd h (by omega)
theorem cl_X6 : tg_Cl 6 RX6 TX6 2 tyX6 := ⟨rfl, wl_X6, tyX6_ok, nmX6⟩
theorem wl_X7_0 : u_lay RX7 TX7 0 ∈ tg_gG := tg_mem (List.mem_of_getElem? (i := 385) (by decide +kernel)) (by decide +kernel)
theorem wl_X7_1 : u_lay RX7 TX7 1 ∈ tg_gG := tg_mem (List.mem_of_getElem? (i := 387) (by decide +kernel)) (by decide +kernel)
theorem wl_X7_2 : u_lay RX7 TX7 2 ∈ tg_gG := tg_mem (List.mem_of_getElem? (i := 389) (by decide +kernel)) (by decide +kernel)
theorem wl_X7_3 : u_lay RX7 TX7 3 ∈ tg_gG := tg_mem (List.mem_of_getElem? (i := 391) (by decide +kernel)) (by decide +kernel)
theorem wl_X7_4 : u_lay RX7 TX7 4 ∈ tg_gG := tg_mem (List.mem_of_getElem? (i := 393) (by decide +kernel)) (by decide +kernel)
theorem wl_X7_5 : u_lay RX7 TX7 5 ∈ tg_gG := tg_mem (List.mem_of_getElem? (i := 395) (by decide +kernel)) (by decide +kernel)
theorem wl_X7_6 : u_lay RX7 TX7 6 ∈ tg_gG := tg_mem (List.mem_of_getElem? (i := 397) (by decide +kernel)) (by decide +kernel)
theorem wl_X7_7 : u_lay RX7 TX7 7 ∈ tg_gG := tg_mem (List.mem_of_getElem? (i := 399) (by decide +kernel)) (by decide +kernel)
theorem wl_X7_8 : u_lay RX7 TX7 8 ∈ tg_gG := tg_mem (List.mem_of_getElem? (i := 401) (by decide +kernel)) (by decide +kernel)
theorem wl_X7_9 : u_lay RX7 TX7 9 ∈ tg_gG := tg_mem (List.mem_of_getElem? (i := 403) (by decide +kernel)) (by decide +kernel)
theorem wl_X7_10 : u_lay RX7 TX7 10 ∈ tg_gG := tg_mem (List.mem_of_getElem? (i := 405) (by decide +kernel)) (by decide +kernel)
theorem wl_X7_11 : u_lay RX7 TX7 11 ∈ tg_gG := tg_mem (List.mem_of_getElem? (i := 407) (by decide +kernel)) (by decide +kernel)
theorem wl_X7 : ∀ w ∈ u_ws RX7 TX7 12, w ∈ tg_gG := by
  intro w h
  obtain ⟨k, hk, rfl⟩ := List.mem_map.mp h
  have hk := List.mem_range.mp hk
  match k, hk with
  | 0, _ => exact wl_X7_0
  | 1, _ => exact wl_X7_1
  | 2, _ => exact wl_X7_2
  | 3, _ => exact wl_X7_3
  | 4, _ => exact wl_X7_4
  | 5, _ => exact wl_X7_5
  | 6, _ => exact wl_X7_6
  | 7, _ => exact wl_X7_7
  | 8, _ => exact wl_X7_8
  | 9, _ => exact wl_X7_9
  | 10, _ => exact wl_X7_10
  | 11, _ => exact wl_X7_11
  | j + 12, h => exact absurd h (by omega)
theorem cl_X7 : tg_Cl 7 RX7 TX7 12 tyX7 := ⟨rfl, wl_X7, tyX7_ok, nmX7⟩
theorem wl_X8_0 : u_lay RX8 TX8 0 ∈ tg_gG := tg_mem (List.mem_of_getElem? (i := 821) (by decide +kernel)) (by decide +kernel)
theorem wl_X8_1 : u_lay RX8 TX8 1 ∈ tg_gG := tg_mem (List.mem_of_getElem? (i := 823) (by decide +kernel)) (by decide +kernel)
theorem wl_X8_2 : u_lay RX8 TX8 2 ∈ tg_gG := tg_mem (List.mem_of_getElem? (i := 825) (by decide +kernel)) (by decide +kernel)
theorem wl_X8_3 : u_lay RX8 TX8 3 ∈ tg_gG := tg_mem (List.mem_of_getElem? (i := 827) (by decide +kernel)) (by decide +kernel)
theorem wl_X8_4 : u_lay RX8 TX8 4 ∈ tg_gG := tg_mem (List.mem_of_getElem? (i := 829) (by decide +kernel)) (by decide +kernel)
theorem wl_X8_5 : u_lay RX8 TX8 5 ∈ tg_gG := tg_mem (List.mem_of_getElem? (i := 831) (by decide +kernel)) (by decide +kernel)
theorem wl_X8_6 : u_lay RX8 TX8 6 ∈ tg_gG := tg_mem (List.mem_of_getElem? (i := 833) (by decide +kernel)) (by decide +kernel)
theorem wl_X8_7 : u_lay RX8 TX8 7 ∈ tg_gG := tg_mem (List.mem_of_getElem? (i := 835) (by decide +kernel)) (by decide +kernel)
theorem wl_X8_8 : u_lay RX8 TX8 8 ∈ tg_gG := tg_mem (List.mem_of_getElem? (i := 837) (by decide +kernel)) (by decide +kernel)
theorem wl_X8_9 : u_lay RX8 TX8 9 ∈ tg_gG := tg_mem (List.mem_of_getElem? (i := 839) (by decide +kernel)) (by decide +kernel)
theorem wl_X8_10 : u_lay RX8 TX8 10 ∈ tg_gG := tg_mem (List.mem_of_getElem? (i := 841) (by decide +kernel)) (by decide +kernel)
theorem wl_X8_11 : u_lay RX8 TX8 11 ∈ tg_gG := tg_mem (List.mem_of_getElem? (i := 843) (by decide +kernel)) (by decide +kernel)
theorem wl_X8_12 : u_lay RX8 TX8 12 ∈ tg_gG := tg_mem (List.mem_of_getElem? (i := 845) (by decide +kernel)) (by decide +kernel)
theorem wl_X8_13 : u_lay RX8 TX8 13 ∈ tg_gG := tg_mem (List.mem_of_getElem? (i := 847) (by decide +kernel)) (by decide +kernel)
theorem wl_X8_14 : u_lay RX8 TX8 14 ∈ tg_gG := tg_mem (List.mem_of_getElem? (i := 849) (by decide +kernel)) (by decide +kernel)
theorem wl_X8_15 : u_lay RX8 TX8 15 ∈ tg_gG := tg_mem (List.mem_of_getElem? (i := 851) (by decide +kernel)) (by decide +kernel)
theorem wl_X8_16 : u_lay RX8 TX8 16 ∈ tg_gG := tg_mem (List.mem_of_getElem? (i := 853) (by decide +kernel)) (by decide +kernel)
theorem wl_X8_17 : u_lay RX8 TX8 17 ∈ tg_gG := tg_mem (List.mem_of_getElem? (i := 855) (by decide +kernel)) (by decide +kernel)
theorem wl_X8_18 : u_lay RX8 TX8 18 ∈ tg_gG := tg_mem (List.mem_of_getElem? (i := 857) (by decide +kernel)) (by decide +kernel)
theorem wl_X8_19 : u_lay RX8 TX8 19 ∈ tg_gG := tg_mem (List.mem_of_getElem? (i := 859) (by decide +kernel)) (by decide +kernel)
theorem wl_X8_20 : u_lay RX8 TX8 20 ∈ tg_gG := tg_mem (List.mem_of_getElem? (i := 861) (by decide +kernel)) (by decide +kernel)
theorem wl_X8_21 : u_lay RX8 TX8 21 ∈ tg_gG := tg_mem (List.mem_of_getElem? (i := 863) (by decide +kernel)) (by decide +kernel)
theorem wl_X8_22 : u_lay RX8 TX8 22 ∈ tg_gG := tg_mem (List.mem_of_getElem? (i := 865) (by decide +kernel)) (by decide +kernel)
theorem wl_X8_23 : u_lay RX8 TX8 23 ∈ tg_gG := tg_mem (List.mem_of_getElem? (i := 867) (by decide +kernel)) (by decide +kernel)
theorem wl_X8_24 : u_lay RX8 TX8 24 ∈ tg_gG := tg_mem (List.mem_of_getElem? (i := 869) (by decide +kernel)) (by decide +kernel)
theorem wl_X8_25 : u_lay RX8 TX8 25 ∈ tg_gG := tg_mem (List.mem_of_getElem? (i := 871) (by decide +kernel)) (by decide +kernel)
theorem wl_X8_26 : u_lay RX8 TX8 26 ∈ tg_gG := tg_mem (List.mem_of_getElem? (i := 873) (by decide +kernel)) (by decide +kernel)
theorem wl_X8_27 : u_lay RX8 TX8 27 ∈ tg_gG := tg_mem (List.mem_of_getElem? (i := 875) (by decide +kernel)) (by decide +kernel)
theorem wl_X8_28 : u_lay RX8 TX8 28 ∈ tg_gG := tg_mem (List.mem_of_getElem? (i := 877) (by decide +kernel)) (by decide +kernel)
theorem wl_X8_29 : u_lay RX8 TX8 29 ∈ tg_gG := tg_mem (List.mem_of_getElem? (i := 879) (by decide +kernel)) (by decide +kernel)
theorem wl_X8_30 : u_lay RX8 TX8 30 ∈ tg_gG := tg_mem (List.mem_of_getElem? (i := 881) (by decide +kernel)) (by decide +kernel)
theorem wl_X8_31 : u_lay RX8 TX8 31 ∈ tg_gG := tg_mem (List.mem_of_getElem? (i := 883) (by decide +kernel)) (by decide +kernel)
theorem wl_X8_32 : u_lay RX8 TX8 32 ∈ tg_gG := tg_mem (List.mem_of_getElem? (i := 885) (by decide +kernel)) (by decide +kernel)
theorem wl_X8_33 : u_lay RX8 TX8 33 ∈ tg_gG := tg_mem (List.mem_of_getElem? (i := 887) (by decide +kernel)) (by decide +kernel)
theorem wl_X8_34 : u_lay RX8 TX8 34 ∈ tg_gG := tg_mem (List.mem_of_getElem? (i := 889) (by decide +kernel)) (by decide +kernel)
theorem wl_X8_35 : u_lay RX8 TX8 35 ∈ tg_gG := tg_mem (List.mem_of_getElem? (i := 891) (by decide +kernel)) (by decide +kernel)
theorem wl_X8_36 : u_lay RX8 TX8 36 ∈ tg_gG := tg_mem (List.mem_of_getElem? (i := 893) (by decide +kernel)) (by decide +kernel)
theorem wl_X8_37 : u_lay RX8 TX8 37 ∈ tg_gG := tg_mem (List.mem_of_getElem? (i := 895) (by decide +kernel)) (by decide +kernel)
theorem wl_X8_38 : u_lay RX8 TX8 38 ∈ tg_gG := tg_mem (List.mem_of_getElem? (i := 897) (by decide +kernel)) (by decide +kernel)
theorem wl_X8_39 : u_lay RX8 TX8 39 ∈ tg_gG := tg_mem (List.mem_of_getElem? (i := 899) (by decide +kernel)) (by decide +kernel)
theorem wl_X8_40 : u_lay RX8 TX8 40 ∈ tg_gG := tg_mem (List.mem_of_getElem? (i := 901) (by decide +kernel)) (by decide +kernel)
theorem wl_X8_41 : u_lay RX8 TX8 41 ∈ tg_gG := tg_mem (List.mem_of_getElem? (i := 903) (by decide +kernel)) (by decide +kernel)
theorem wl_X8_42 : u_lay RX8 TX8 42 ∈ tg_gG := tg_mem (List.mem_of_getElem? (i := 905) (by decide +kernel)) (by decide +kernel)
theorem wl_X8_43 : u_lay RX8 TX8 43 ∈ tg_gG := tg_mem (List.mem_of_getElem? (i := 907) (by decide +kernel)) (by decide +kernel)
theorem wl_X8_44 : u_lay RX8 TX8 44 ∈ tg_gG := tg_mem (List.mem_of_getElem? (i := 909) (by decide +kernel)) (by decide +kernel)
theorem wl_X8_45 : u_lay RX8 TX8 45 ∈ tg_gG := tg_mem (List.mem_of_getElem? (i := 911) (by decide +kernel)) (by decide +kernel)
theorem wl_X8_46 : u_lay RX8 TX8 46 ∈ tg_gG := tg_mem (List.mem_of_getElem? (i := 913) (by decide +kernel)) (by decide +kernel)
theorem wl_X8 : ∀ w ∈ u_ws RX8 TX8 47, w ∈ tg_gG := by
  intro w h
  obtain ⟨k, hk, rfl⟩ := List.mem_map.mp h
  have hk := List.mem_range.mp hk
  match k, hk with
  | 0, _ => exact wl_X8_0
  | 1, _ => exact wl_X8_1
  | 2, _ => exact wl_X8_2
  | 3, _ => exact wl_X8_3
  | 4, _ => exact wl_X8_4
  | 5, _ => exact wl_X8_5
  | 6, _ => exact wl_X8_6
  | 7, _ => exact wl_X8_7
  | 8, _ => exact wl_X8_8
  | 9, _ => exact wl_X8_9
  | 10, _ => exact wl_X8_10
  | 11, _ => exact wl_X8_11
  | 12, _ => exact wl_X8_12
  | 13, _ => exact wl_X8_13
  | 14, _ => exact wl_X8_14
  | 15, _ => exact wl_X8_15
  | 16, _ => exact wl_X8_16
  | 17, _ => exact wl_X8_17
  | 18, _ => exact wl_X8_18
  | 19, _ => exact wl_X8_19
  | 20, _ => exact wl_X8_20
  | 21, _ => exact wl_X8_21
  | 22, _ => exact wl_X8_22
  | 23, _ => exact wl_X8_23
  | 24, _ => exact wl_X8_24
  | 25, _ => exact wl_X8_25
  | 26, _ => exact wl_X8_26
  | 27, _ => exact wl_X8_27
  | 28, _ => exact wl_X8_28
  | 29, _ => exact wl_X8_29
  | 30, _ => exact wl_X8_30
  | 31, _ => exact wl_X8_31
  | 32, _ => exact wl_X8_32
  | 33, _ => exact wl_X8_33
  | 34, _ => exact wl_X8_34
  | 35, _ => exact wl_X8_35
  | 36, _ => exact wl_X8_36
  | 37, _ => exact wl_X8_37
  | 38, _ => exact wl_X8_38
  | 39, _ => exact wl_X8_39
  | 40, _ => exact wl_X8_40
  | 41, _ => exact wl_X8_41
  | 42, _ => exact wl_X8_42
  | 43, _ => exact wl_X8_43
  | 44, _ => exact wl_X8_44
  | 45, _ => exact wl_X8_45
  | 46, _ => exact wl_X8_46
  | j + 47, h => exact absurd h (by omega)
theorem cl_X8 : tg_Cl 8 RX8 TX8 47 tyX8 := ⟨rfl, wl_X8, tyX8_ok, nmX8⟩
theorem tk_im1 : Int32.ofInt (-1) = (-1 : Int32) := by decide +kernel
theorem tk_i0 : Int32.ofInt (0) = (0 : Int32) := by decide +kernel
theorem tk_i1 : Int32.ofInt (1) = (1 : Int32) := by decide +kernel
theorem tk_b60 : (Int8.ofInt (60)).toInt32 = (60 : Int32) := by decide +kernel
theorem tk_i2 : Int32.ofInt (2) = (2 : Int32) := by decide +kernel
theorem tk_i3 : Int32.ofInt (3) = (3 : Int32) := by decide +kernel
theorem tk_b24 : (Int8.ofInt (24)).toInt32 = (24 : Int32) := by decide +kernel
theorem tk_b31 : (Int8.ofInt (31)).toInt32 = (31 : Int32) := by decide +kernel
theorem tk_i4 : Int32.ofInt (4) = (4 : Int32) := by decide +kernel
theorem tk_b104 : (Int8.ofInt (104)).toInt32 = (104 : Int32) := by decide +kernel
theorem tk_b108 : (Int8.ofInt (108)).toInt32 = (108 : Int32) := by decide +kernel
theorem tk_b97 : (Int8.ofInt (97)).toInt32 = (97 : Int32) := by decide +kernel
theorem tk_b59 : (Int8.ofInt (59)).toInt32 = (59 : Int32) := by decide +kernel
theorem tk_b49 : (Int8.ofInt (49)).toInt32 = (49 : Int32) := by decide +kernel
theorem tk_b57 : (Int8.ofInt (57)).toInt32 = (57 : Int32) := by decide +kernel
theorem tk_b8 : (Int8.ofInt (8)).toInt32 = (8 : Int32) := by decide +kernel
theorem tk_b48 : (Int8.ofInt (48)).toInt32 = (48 : Int32) := by decide +kernel
theorem tk_b9 : (Int8.ofInt (9)).toInt32 = (9 : Int32) := by decide +kernel
theorem tk_bm3 : (Int8.ofInt (-3)).toInt32 = (-3 : Int32) := by decide +kernel
theorem tk_b22 : (Int8.ofInt (22)).toInt32 = (22 : Int32) := by decide +kernel
theorem tk_b16 : (Int8.ofInt (16)).toInt32 = (16 : Int32) := by decide +kernel
theorem tk_b12 : (Int8.ofInt (12)).toInt32 = (12 : Int32) := by decide +kernel
theorem tk_bm2 : (Int8.ofInt (-2)).toInt32 = (-2 : Int32) := by decide +kernel
theorem tk_s256 : (Int16.ofInt (256)).toInt32 = (256 : Int32) := by decide +kernel
theorem tk_bm4 : (Int8.ofInt (-4)).toInt32 = (-4 : Int32) := by decide +kernel
theorem tk_b10 : (Int8.ofInt (10)).toInt32 = (10 : Int32) := by decide +kernel
theorem tk_bm10 : (Int8.ofInt (-10)).toInt32 = (-10 : Int32) := by decide +kernel
theorem tk_b23 : (Int8.ofInt (23)).toInt32 = (23 : Int32) := by decide +kernel
theorem tk_b25 : (Int8.ofInt (25)).toInt32 = (25 : Int32) := by decide +kernel
theorem tk_b17 : (Int8.ofInt (17)).toInt32 = (17 : Int32) := by decide +kernel
theorem tk_s12345 : (Int16.ofInt (12345)).toInt32 = (12345 : Int32) := by decide +kernel
theorem tk_i5 : Int32.ofInt (5) = (5 : Int32) := by decide +kernel
theorem tk_b7 : (Int8.ofInt (7)).toInt32 = (7 : Int32) := by decide +kernel
theorem tk_b18 : (Int8.ofInt (18)).toInt32 = (18 : Int32) := by decide +kernel
theorem tk_s255 : (Int16.ofInt (255)).toInt32 = (255 : Int32) := by decide +kernel
theorem tk_b114 : (Int8.ofInt (114)).toInt32 = (114 : Int32) := by decide +kernel
theorem tk_b112 : (Int8.ofInt (112)).toInt32 = (112 : Int32) := by decide +kernel
theorem tk_b15 : (Int8.ofInt (15)).toInt32 = (15 : Int32) := by decide +kernel
theorem wf_X0_21 : Cond.fieldLink RX0 21 (TX0 3).1 (TX0 3).2.1 (TX0 3).2.2.1 ∈ tg_gG := tg_mem (List.mem_of_getElem? (i := 283) (by decide +kernel)) (by decide +kernel)
theorem wf_X0_9 : Cond.fieldLink RX0 9 (TX0 0).1 (TX0 0).2.1 (TX0 0).2.2.1 ∈ tg_gG := tg_mem (List.mem_of_getElem? (i := 277) (by decide +kernel)) (by decide +kernel)
theorem wf_X0_15 : Cond.fieldLink RX0 15 (TX0 1).1 (TX0 1).2.1 (TX0 1).2.2.1 ∈ tg_gG := tg_mem (List.mem_of_getElem? (i := 279) (by decide +kernel)) (by decide +kernel)
theorem wf_X0_18 : Cond.fieldLink RX0 18 (TX0 2).1 (TX0 2).2.1 (TX0 2).2.2.1 ∈ tg_gG := tg_mem (List.mem_of_getElem? (i := 281) (by decide +kernel)) (by decide +kernel)
theorem wc_X0_startFor : Cond.code yX0_startFor cX0_startFor 2 none ∈ tg_gG := tg_mem (List.mem_of_getElem? (i := 562) (by decide +kernel)) (by decide +kernel)
theorem wi_X0 : Cond.initialized RX0 ∈ tg_gG := tg_mem (List.mem_of_getElem? (i := 82) (by decide +kernel)) (by decide +kernel)
theorem wv_X0_startFor : Cond.instanceMethod yX0_startFor ∈ tg_gG := tg_mem (List.mem_of_getElem? (i := 560) (by decide +kernel)) (by decide +kernel)
theorem ws_X0_startFor : Cond.selects yX0_startFor.cls yX0_startFor yX0_startFor ∈ tg_gG := tg_mem (List.mem_of_getElem? (i := 561) (by decide +kernel)) (by decide +kernel)
theorem wc_X0_offer : Cond.code yX0_offer cX0_offer 5 none ∈ tg_gG := tg_mem (List.mem_of_getElem? (i := 566) (by decide +kernel)) (by decide +kernel)
theorem wv_X0_offer : Cond.instanceMethod yX0_offer ∈ tg_gG := tg_mem (List.mem_of_getElem? (i := 564) (by decide +kernel)) (by decide +kernel)
theorem ws_X0_offer : Cond.selects yX0_offer.cls yX0_offer yX0_offer ∈ tg_gG := tg_mem (List.mem_of_getElem? (i := 565) (by decide +kernel)) (by decide +kernel)
theorem wf_X4_9 : Cond.fieldLink RX4 9 (TX4 0).1 (TX4 0).2.1 (TX4 0).2.2.1 ∈ tg_gG := tg_mem (List.mem_of_getElem? (i := 114) (by decide +kernel)) (by decide +kernel)
theorem wf_X4_18 : Cond.fieldLink RX4 18 (TX4 2).1 (TX4 2).2.1 (TX4 2).2.2.1 ∈ tg_gG := tg_mem (List.mem_of_getElem? (i := 116) (by decide +kernel)) (by decide +kernel)
theorem wf_X4_15 : Cond.fieldLink RX4 15 (TX4 1).1 (TX4 1).2.1 (TX4 1).2.2.1 ∈ tg_gG := tg_mem (List.mem_of_getElem? (i := 115) (by decide +kernel)) (by decide +kernel)
theorem wc_X4_append : Cond.code yX4_append cX4_append 3 (some .int) ∈ tg_gG := tg_mem (List.mem_of_getElem? (i := 606) (by decide +kernel)) (by decide +kernel)
theorem wi_X4 : Cond.initialized RX4 ∈ tg_gG := tg_mem (List.mem_of_getElem? (i := 77) (by decide +kernel)) (by decide +kernel)
theorem wv_X4_append : Cond.instanceMethod yX4_append ∈ tg_gG := tg_mem (List.mem_of_getElem? (i := 604) (by decide +kernel)) (by decide +kernel)
theorem ws_X4_append : Cond.selects yX4_append.cls yX4_append yX4_append ∈ tg_gG := tg_mem (List.mem_of_getElem? (i := 605) (by decide +kernel)) (by decide +kernel)
theorem wf_X4_22 : Cond.fieldLink RX4 22 (TX2 0).1 (TX2 0).2.1 (TX2 0).2.2.1 ∈ tg_gG := tg_mem (List.mem_of_getElem? (i := 227) (by decide +kernel)) (by decide +kernel)
theorem wc_X4_fit : Cond.code yX4_fit cX4_fit 3 (some .boolean) ∈ tg_gG := tg_mem (List.mem_of_getElem? (i := 618) (by decide +kernel)) (by decide +kernel)
theorem wv_X4_fit : Cond.instanceMethod yX4_fit ∈ tg_gG := tg_mem (List.mem_of_getElem? (i := 616) (by decide +kernel)) (by decide +kernel)
theorem ws_X4_fit : Cond.selects yX4_fit.cls yX4_fit yX4_fit ∈ tg_gG := tg_mem (List.mem_of_getElem? (i := 617) (by decide +kernel)) (by decide +kernel)
theorem wf_X5_18 : Cond.fieldLink RX5 18 (TX5 2).1 (TX5 2).2.1 (TX5 2).2.2.1 ∈ tg_gG := tg_mem (List.mem_of_getElem? (i := 133) (by decide +kernel)) (by decide +kernel)
theorem wc_X5_isLost : Cond.code yX5_isLost cX5_isLost 2 (some .boolean) ∈ tg_gG := tg_mem (List.mem_of_getElem? (i := 493) (by decide +kernel)) (by decide +kernel)
theorem wi_X5 : Cond.initialized RX5 ∈ tg_gG := tg_mem (List.mem_of_getElem? (i := 78) (by decide +kernel)) (by decide +kernel)
theorem wv_X5_isLost : Cond.instanceMethod yX5_isLost ∈ tg_gG := tg_mem (List.mem_of_getElem? (i := 491) (by decide +kernel)) (by decide +kernel)
theorem ws_X5_isLost : Cond.selects yX5_isLost.cls yX5_isLost yX5_isLost ∈ tg_gG := tg_mem (List.mem_of_getElem? (i := 492) (by decide +kernel)) (by decide +kernel)
theorem wc_X5_size : Cond.code yX5_size cX5_size 2 (some .int) ∈ tg_gG := tg_mem (List.mem_of_getElem? (i := 501) (by decide +kernel)) (by decide +kernel)
theorem wv_X5_size : Cond.instanceMethod yX5_size ∈ tg_gG := tg_mem (List.mem_of_getElem? (i := 499) (by decide +kernel)) (by decide +kernel)
theorem ws_X5_size : Cond.selects yX5_size.cls yX5_size yX5_size ∈ tg_gG := tg_mem (List.mem_of_getElem? (i := 500) (by decide +kernel)) (by decide +kernel)
theorem wf_X5_15 : Cond.fieldLink RX5 15 (TX5 1).1 (TX5 1).2.1 (TX5 1).2.2.1 ∈ tg_gG := tg_mem (List.mem_of_getElem? (i := 132) (by decide +kernel)) (by decide +kernel)
theorem wf_X5_9 : Cond.fieldLink RX5 9 (TX5 0).1 (TX5 0).2.1 (TX5 0).2.2.1 ∈ tg_gG := tg_mem (List.mem_of_getElem? (i := 131) (by decide +kernel)) (by decide +kernel)
theorem wc_X5_renew : Cond.code yX5_renew cX5_renew 5 none ∈ tg_gG := tg_mem (List.mem_of_getElem? (i := 669) (by decide +kernel)) (by decide +kernel)
theorem wv_X5_renew : Cond.instanceMethod yX5_renew ∈ tg_gG := tg_mem (List.mem_of_getElem? (i := 667) (by decide +kernel)) (by decide +kernel)
theorem ws_X5_renew : Cond.selects yX5_renew.cls yX5_renew yX5_renew ∈ tg_gG := tg_mem (List.mem_of_getElem? (i := 668) (by decide +kernel)) (by decide +kernel)
theorem wc_X5_drop : Cond.code yX5_drop cX5_drop 3 (some .int) ∈ tg_gG := tg_mem (List.mem_of_getElem? (i := 677) (by decide +kernel)) (by decide +kernel)
theorem wv_X5_drop : Cond.instanceMethod yX5_drop ∈ tg_gG := tg_mem (List.mem_of_getElem? (i := 675) (by decide +kernel)) (by decide +kernel)
theorem ws_X5_drop : Cond.selects yX5_drop.cls yX5_drop yX5_drop ∈ tg_gG := tg_mem (List.mem_of_getElem? (i := 676) (by decide +kernel)) (by decide +kernel)
theorem wc_X7_isBelow : Cond.code yX7_isBelow cX7_isBelow 2 (some .boolean) ∈ tg_gG := tg_mem (List.mem_of_getElem? (i := 416) (by decide +kernel)) (by decide +kernel)
theorem wi_X7 : Cond.initialized RX7 ∈ tg_gG := tg_mem (List.mem_of_getElem? (i := 75) (by decide +kernel)) (by decide +kernel)
theorem wt_X7_isBelow : Cond.static yX7_isBelow ∈ tg_gG := tg_mem (List.mem_of_getElem? (i := 415) (by decide +kernel)) (by decide +kernel)
theorem wm_X5_21 : Cond.methodLink RX5 21 yX5_isLost ∈ tg_gG := tg_mem (List.mem_of_getElem? (i := 686) (by decide +kernel)) (by decide +kernel)
theorem wc_X5_whatIsWrong : Cond.code yX5_whatIsWrong cX5_whatIsWrong 4 (some .int) ∈ tg_gG := tg_mem (List.mem_of_getElem? (i := 685) (by decide +kernel)) (by decide +kernel)
theorem wv_X5_whatIsWrong : Cond.instanceMethod yX5_whatIsWrong ∈ tg_gG := tg_mem (List.mem_of_getElem? (i := 683) (by decide +kernel)) (by decide +kernel)
theorem ws_X5_whatIsWrong : Cond.selects yX5_whatIsWrong.cls yX5_whatIsWrong yX5_whatIsWrong ∈ tg_gG := tg_mem (List.mem_of_getElem? (i := 684) (by decide +kernel)) (by decide +kernel)
theorem wc_X5_areAlike : Cond.code yX5_areAlike cX5_areAlike 3 (some .boolean) ∈ tg_gG := tg_mem (List.mem_of_getElem? (i := 704) (by decide +kernel)) (by decide +kernel)
theorem wv_X5_areAlike : Cond.instanceMethod yX5_areAlike ∈ tg_gG := tg_mem (List.mem_of_getElem? (i := 702) (by decide +kernel)) (by decide +kernel)
theorem ws_X5_areAlike : Cond.selects yX5_areAlike.cls yX5_areAlike yX5_areAlike ∈ tg_gG := tg_mem (List.mem_of_getElem? (i := 703) (by decide +kernel)) (by decide +kernel)
theorem wc_X5_holds : Cond.code yX5_holds cX5_holds 4 (some .boolean) ∈ tg_gG := tg_mem (List.mem_of_getElem? (i := 708) (by decide +kernel)) (by decide +kernel)
theorem wv_X5_holds : Cond.instanceMethod yX5_holds ∈ tg_gG := tg_mem (List.mem_of_getElem? (i := 706) (by decide +kernel)) (by decide +kernel)
theorem ws_X5_holds : Cond.selects yX5_holds.cls yX5_holds yX5_holds ∈ tg_gG := tg_mem (List.mem_of_getElem? (i := 707) (by decide +kernel)) (by decide +kernel)
theorem wc_X5_item : Cond.code yX5_item cX5_item 3 (some .int) ∈ tg_gG := tg_mem (List.mem_of_getElem? (i := 505) (by decide +kernel)) (by decide +kernel)
theorem wv_X5_item : Cond.instanceMethod yX5_item ∈ tg_gG := tg_mem (List.mem_of_getElem? (i := 503) (by decide +kernel)) (by decide +kernel)
theorem ws_X5_item : Cond.selects yX5_item.cls yX5_item yX5_item ∈ tg_gG := tg_mem (List.mem_of_getElem? (i := 504) (by decide +kernel)) (by decide +kernel)
theorem wc_X5_store : Cond.code yX5_store cX5_store 5 none ∈ tg_gG := tg_mem (List.mem_of_getElem? (i := 691) (by decide +kernel)) (by decide +kernel)
theorem wv_X5_store : Cond.instanceMethod yX5_store ∈ tg_gG := tg_mem (List.mem_of_getElem? (i := 689) (by decide +kernel)) (by decide +kernel)
theorem ws_X5_store : Cond.selects yX5_store.cls yX5_store yX5_store ∈ tg_gG := tg_mem (List.mem_of_getElem? (i := 690) (by decide +kernel)) (by decide +kernel)
theorem wm_X5_29 : Cond.methodLink RX5 29 arraycopyName ∈ tg_gG := tg_mem (List.mem_of_getElem? (i := 713) (by decide +kernel)) (by decide +kernel)
theorem wt_AC : Cond.static arraycopyName ∈ tg_gG := tg_mem (List.mem_of_getElem? (i := 341) (by decide +kernel)) (by decide +kernel)
theorem wi_Sys : Cond.initialized "java/lang/System" ∈ tg_gG := tg_mem (List.mem_of_getElem? (i := 83) (by decide +kernel)) (by decide +kernel)
theorem wn_AC : Cond.native arraycopyName ∈ tg_gG := tg_mem (List.mem_of_getElem? (i := 342) (by decide +kernel)) (by decide +kernel)
theorem wc_X5_move : Cond.code yX5_move cX5_move 6 none ∈ tg_gG := tg_mem (List.mem_of_getElem? (i := 712) (by decide +kernel)) (by decide +kernel)
theorem wv_X5_move : Cond.instanceMethod yX5_move ∈ tg_gG := tg_mem (List.mem_of_getElem? (i := 710) (by decide +kernel)) (by decide +kernel)
theorem ws_X5_move : Cond.selects yX5_move.cls yX5_move yX5_move ∈ tg_gG := tg_mem (List.mem_of_getElem? (i := 711) (by decide +kernel)) (by decide +kernel)
theorem wf_X6_15 : Cond.fieldLink RX6 15 (TX6 1).1 (TX6 1).2.1 (TX6 1).2.2.1 ∈ tg_gG := tg_mem (List.mem_of_getElem? (i := 101) (by decide +kernel)) (by decide +kernel)
theorem wc_X6_isFull : Cond.code yX6_isFull cX6_isFull 2 (some .boolean) ∈ tg_gG := tg_mem (List.mem_of_getElem? (i := 420) (by decide +kernel)) (by decide +kernel)
theorem wi_X6 : Cond.initialized RX6 ∈ tg_gG := tg_mem (List.mem_of_getElem? (i := 76) (by decide +kernel)) (by decide +kernel)
theorem wv_X6_isFull : Cond.instanceMethod yX6_isFull ∈ tg_gG := tg_mem (List.mem_of_getElem? (i := 418) (by decide +kernel)) (by decide +kernel)
theorem ws_X6_isFull : Cond.selects yX6_isFull.cls yX6_isFull yX6_isFull ∈ tg_gG := tg_mem (List.mem_of_getElem? (i := 419) (by decide +kernel)) (by decide +kernel)
theorem wf_X6_9 : Cond.fieldLink RX6 9 (TX6 0).1 (TX6 0).2.1 (TX6 0).2.2.1 ∈ tg_gG := tg_mem (List.mem_of_getElem? (i := 100) (by decide +kernel)) (by decide +kernel)
theorem wc_X6_append : Cond.code yX6_append cX6_append 3 (some .int) ∈ tg_gG := tg_mem (List.mem_of_getElem? (i := 424) (by decide +kernel)) (by decide +kernel)
theorem wv_X6_append : Cond.instanceMethod yX6_append ∈ tg_gG := tg_mem (List.mem_of_getElem? (i := 422) (by decide +kernel)) (by decide +kernel)
theorem ws_X6_append : Cond.selects yX6_append.cls yX6_append yX6_append ∈ tg_gG := tg_mem (List.mem_of_getElem? (i := 423) (by decide +kernel)) (by decide +kernel)
theorem wc_X6_clear : Cond.code yX6_clear cX6_clear 3 (some .int) ∈ tg_gG := tg_mem (List.mem_of_getElem? (i := 432) (by decide +kernel)) (by decide +kernel)
theorem wv_X6_clear : Cond.instanceMethod yX6_clear ∈ tg_gG := tg_mem (List.mem_of_getElem? (i := 430) (by decide +kernel)) (by decide +kernel)
theorem ws_X6_clear : Cond.selects yX6_clear.cls yX6_clear yX6_clear ∈ tg_gG := tg_mem (List.mem_of_getElem? (i := 431) (by decide +kernel)) (by decide +kernel)
theorem wc_X6_cutLast : Cond.code yX6_cutLast cX6_cutLast 2 (some .int) ∈ tg_gG := tg_mem (List.mem_of_getElem? (i := 444) (by decide +kernel)) (by decide +kernel)
theorem wv_X6_cutLast : Cond.instanceMethod yX6_cutLast ∈ tg_gG := tg_mem (List.mem_of_getElem? (i := 442) (by decide +kernel)) (by decide +kernel)
theorem ws_X6_cutLast : Cond.selects yX6_cutLast.cls yX6_cutLast yX6_cutLast ∈ tg_gG := tg_mem (List.mem_of_getElem? (i := 443) (by decide +kernel)) (by decide +kernel)
theorem wc_X6_length : Cond.code yX6_length cX6_length 2 (some .int) ∈ tg_gG := tg_mem (List.mem_of_getElem? (i := 440) (by decide +kernel)) (by decide +kernel)
theorem wv_X6_length : Cond.instanceMethod yX6_length ∈ tg_gG := tg_mem (List.mem_of_getElem? (i := 438) (by decide +kernel)) (by decide +kernel)
theorem ws_X6_length : Cond.selects yX6_length.cls yX6_length yX6_length ∈ tg_gG := tg_mem (List.mem_of_getElem? (i := 439) (by decide +kernel)) (by decide +kernel)
theorem wc_X6_lengthOfAll : Cond.code yX6_lengthOfAll cX6_lengthOfAll 3 (some .int) ∈ tg_gG := tg_mem (List.mem_of_getElem? (i := 726) (by decide +kernel)) (by decide +kernel)
theorem wv_X6_lengthOfAll : Cond.instanceMethod yX6_lengthOfAll ∈ tg_gG := tg_mem (List.mem_of_getElem? (i := 724) (by decide +kernel)) (by decide +kernel)
theorem ws_X6_lengthOfAll : Cond.selects yX6_lengthOfAll.cls yX6_lengthOfAll yX6_lengthOfAll ∈ tg_gG := tg_mem (List.mem_of_getElem? (i := 725) (by decide +kernel)) (by decide +kernel)
theorem wc_X6_byteAt : Cond.code yX6_byteAt cX6_byteAt 3 (some .int) ∈ tg_gG := tg_mem (List.mem_of_getElem? (i := 316) (by decide +kernel)) (by decide +kernel)
theorem wv_X6_byteAt : Cond.instanceMethod yX6_byteAt ∈ tg_gG := tg_mem (List.mem_of_getElem? (i := 314) (by decide +kernel)) (by decide +kernel)
theorem ws_X6_byteAt : Cond.selects yX6_byteAt.cls yX6_byteAt yX6_byteAt ∈ tg_gG := tg_mem (List.mem_of_getElem? (i := 315) (by decide +kernel)) (by decide +kernel)
theorem wc_X6_callOf : Cond.code yX6_callOf cX6_callOf 1 (some .int) ∈ tg_gG := tg_mem (List.mem_of_getElem? (i := 322) (by decide +kernel)) (by decide +kernel)
theorem wt_X6_callOf : Cond.static yX6_callOf ∈ tg_gG := tg_mem (List.mem_of_getElem? (i := 321) (by decide +kernel)) (by decide +kernel)
theorem wc_X6_teamGoesOn : Cond.code yX6_teamGoesOn cX6_teamGoesOn 2 (some .boolean) ∈ tg_gG := tg_mem (List.mem_of_getElem? (i := 319) (by decide +kernel)) (by decide +kernel)
theorem wt_X6_teamGoesOn : Cond.static yX6_teamGoesOn ∈ tg_gG := tg_mem (List.mem_of_getElem? (i := 318) (by decide +kernel)) (by decide +kernel)
theorem wm_X6_22 : Cond.methodLink RX6 22 yX6_byteAt ∈ tg_gG := tg_mem (List.mem_of_getElem? (i := 313) (by decide +kernel)) (by decide +kernel)
theorem wm_X6_30 : Cond.methodLink RX6 30 yX6_callOf ∈ tg_gG := tg_mem (List.mem_of_getElem? (i := 320) (by decide +kernel)) (by decide +kernel)
theorem wm_X6_26 : Cond.methodLink RX6 26 yX6_teamGoesOn ∈ tg_gG := tg_mem (List.mem_of_getElem? (i := 317) (by decide +kernel)) (by decide +kernel)
theorem wc_X6_firstFault : Cond.code yX6_firstFault cX6_firstFault 5 (some .int) ∈ tg_gG := tg_mem (List.mem_of_getElem? (i := 312) (by decide +kernel)) (by decide +kernel)
theorem wv_X6_firstFault : Cond.instanceMethod yX6_firstFault ∈ tg_gG := tg_mem (List.mem_of_getElem? (i := 310) (by decide +kernel)) (by decide +kernel)
theorem ws_X6_firstFault : Cond.selects yX6_firstFault.cls yX6_firstFault yX6_firstFault ∈ tg_gG := tg_mem (List.mem_of_getElem? (i := 311) (by decide +kernel)) (by decide +kernel)
theorem wm_X6_18 : Cond.methodLink RX6 18 yX6_firstFault ∈ tg_gG := tg_mem (List.mem_of_getElem? (i := 309) (by decide +kernel)) (by decide +kernel)
theorem wc_X6_soundLength : Cond.code yX6_soundLength cX6_soundLength 2 (some .int) ∈ tg_gG := tg_mem (List.mem_of_getElem? (i := 308) (by decide +kernel)) (by decide +kernel)
theorem wv_X6_soundLength : Cond.instanceMethod yX6_soundLength ∈ tg_gG := tg_mem (List.mem_of_getElem? (i := 306) (by decide +kernel)) (by decide +kernel)
theorem ws_X6_soundLength : Cond.selects yX6_soundLength.cls yX6_soundLength yX6_soundLength ∈ tg_gG := tg_mem (List.mem_of_getElem? (i := 307) (by decide +kernel)) (by decide +kernel)
theorem wc_X6_sortOf : Cond.code yX6_sortOf cX6_sortOf 1 (some .int) ∈ tg_gG := tg_mem (List.mem_of_getElem? (i := 326) (by decide +kernel)) (by decide +kernel)
theorem wt_X6_sortOf : Cond.static yX6_sortOf ∈ tg_gG := tg_mem (List.mem_of_getElem? (i := 325) (by decide +kernel)) (by decide +kernel)
theorem wm_X1_52 : Cond.methodLink RX1 52 yX6_soundLength ∈ tg_gG := tg_mem (List.mem_of_getElem? (i := 305) (by decide +kernel)) (by decide +kernel)
theorem wf_X1_31 : Cond.fieldLink RX1 31 (TX1 6).1 (TX1 6).2.1 (TX1 6).2.2.1 ∈ tg_gG := tg_mem (List.mem_of_getElem? (i := 192) (by decide +kernel)) (by decide +kernel)
theorem wm_X1_58 : Cond.methodLink RX1 58 yX6_byteAt ∈ tg_gG := tg_mem (List.mem_of_getElem? (i := 323) (by decide +kernel)) (by decide +kernel)
theorem wm_X1_65 : Cond.methodLink RX1 65 yX6_callOf ∈ tg_gG := tg_mem (List.mem_of_getElem? (i := 331) (by decide +kernel)) (by decide +kernel)
theorem wc_X1_takeCalls : Cond.code yX1_takeCalls cX1_takeCalls 6 none ∈ tg_gG := tg_mem (List.mem_of_getElem? (i := 330) (by decide +kernel)) (by decide +kernel)
theorem wi_X1 : Cond.initialized RX1 ∈ tg_gG := tg_mem (List.mem_of_getElem? (i := 79) (by decide +kernel)) (by decide +kernel)
theorem wv_X1_takeCalls : Cond.instanceMethod yX1_takeCalls ∈ tg_gG := tg_mem (List.mem_of_getElem? (i := 329) (by decide +kernel)) (by decide +kernel)
theorem ws_X1_takeCalls : Cond.selects yX1_takeCalls.cls yX1_takeCalls yX1_takeCalls ∈ tg_gG := tg_mem (List.mem_of_getElem? (i := 2) (by decide +kernel)) (by decide +kernel)
theorem wf_X1_25 : Cond.fieldLink RX1 25 (TX1 4).1 (TX1 4).2.1 (TX1 4).2.2.1 ∈ tg_gG := tg_mem (List.mem_of_getElem? (i := 187) (by decide +kernel)) (by decide +kernel)
theorem wf_X1_28 : Cond.fieldLink RX1 28 (TX1 5).1 (TX1 5).2.1 (TX1 5).2.2.1 ∈ tg_gG := tg_mem (List.mem_of_getElem? (i := 189) (by decide +kernel)) (by decide +kernel)
theorem wf_X1_9 : Cond.fieldLink RX1 9 (TX1 0).1 (TX1 0).2.1 (TX1 0).2.2.1 ∈ tg_gG := tg_mem (List.mem_of_getElem? (i := 175) (by decide +kernel)) (by decide +kernel)
theorem wf_X1_15 : Cond.fieldLink RX1 15 (TX1 1).1 (TX1 1).2.1 (TX1 1).2.2.1 ∈ tg_gG := tg_mem (List.mem_of_getElem? (i := 178) (by decide +kernel)) (by decide +kernel)
theorem wm_X1_62 : Cond.methodLink RX1 62 yX6_sortOf ∈ tg_gG := tg_mem (List.mem_of_getElem? (i := 324) (by decide +kernel)) (by decide +kernel)
theorem wf_X1_19 : Cond.fieldLink RX1 19 (TX1 2).1 (TX1 2).2.1 (TX1 2).2.2.1 ∈ tg_gG := tg_mem (List.mem_of_getElem? (i := 181) (by decide +kernel)) (by decide +kernel)
theorem wf_X1_22 : Cond.fieldLink RX1 22 (TX1 3).1 (TX1 3).2.1 (TX1 3).2.2.1 ∈ tg_gG := tg_mem (List.mem_of_getElem? (i := 184) (by decide +kernel)) (by decide +kernel)
theorem wc_X1_takeTeam : Cond.code yX1_takeTeam cX1_takeTeam 5 none ∈ tg_gG := tg_mem (List.mem_of_getElem? (i := 304) (by decide +kernel)) (by decide +kernel)
theorem wv_X1_takeTeam : Cond.instanceMethod yX1_takeTeam ∈ tg_gG := tg_mem (List.mem_of_getElem? (i := 303) (by decide +kernel)) (by decide +kernel)
theorem ws_X1_takeTeam : Cond.selects yX1_takeTeam.cls yX1_takeTeam yX1_takeTeam ∈ tg_gG := tg_mem (List.mem_of_getElem? (i := 1) (by decide +kernel)) (by decide +kernel)
theorem wm_X1_45 : Cond.methodLink RX1 45 yX1_takeTeam ∈ tg_gG := tg_mem (List.mem_of_getElem? (i := 301) (by decide +kernel)) (by decide +kernel)
theorem wm_X1_49 : Cond.methodLink RX1 49 yX1_takeCalls ∈ tg_gG := tg_mem (List.mem_of_getElem? (i := 327) (by decide +kernel)) (by decide +kernel)
theorem wc_X1_takeTexts : Cond.code yX1_takeTexts cX1_takeTexts 3 none ∈ tg_gG := tg_mem (List.mem_of_getElem? (i := 300) (by decide +kernel)) (by decide +kernel)
theorem wv_X1_takeTexts : Cond.instanceMethod yX1_takeTexts ∈ tg_gG := tg_mem (List.mem_of_getElem? (i := 298) (by decide +kernel)) (by decide +kernel)
theorem ws_X1_takeTexts : Cond.selects yX1_takeTexts.cls yX1_takeTexts yX1_takeTexts ∈ tg_gG := tg_mem (List.mem_of_getElem? (i := 299) (by decide +kernel)) (by decide +kernel)
theorem wf_X3_15 : Cond.fieldLink RX3 15 (TX3 1).1 (TX3 1).2.1 (TX3 1).2.2.1 ∈ tg_gG := tg_mem (List.mem_of_getElem? (i := 155) (by decide +kernel)) (by decide +kernel)
theorem wf_X3_25 : Cond.fieldLink RX3 25 (TX3 4).1 (TX3 4).2.1 (TX3 4).2.2.1 ∈ tg_gG := tg_mem (List.mem_of_getElem? (i := 161) (by decide +kernel)) (by decide +kernel)
theorem wc_X3_happens : Cond.code yX3_happens cX3_happens 3 (some .boolean) ∈ tg_gG := tg_mem (List.mem_of_getElem? (i := 350) (by decide +kernel)) (by decide +kernel)
theorem wi_X3 : Cond.initialized RX3 ∈ tg_gG := tg_mem (List.mem_of_getElem? (i := 80) (by decide +kernel)) (by decide +kernel)
theorem wv_X3_happens : Cond.instanceMethod yX3_happens ∈ tg_gG := tg_mem (List.mem_of_getElem? (i := 348) (by decide +kernel)) (by decide +kernel)
theorem ws_X3_happens : Cond.selects yX3_happens.cls yX3_happens yX3_happens ∈ tg_gG := tg_mem (List.mem_of_getElem? (i := 349) (by decide +kernel)) (by decide +kernel)
theorem wf_X2_43 : Cond.fieldLink RX2 43 (TX2 10).1 (TX2 10).2.1 (TX2 10).2.2.1 ∈ tg_gG := tg_mem (List.mem_of_getElem? (i := 244) (by decide +kernel)) (by decide +kernel)
theorem wf_X2_46 : Cond.fieldLink RX2 46 (TX2 11).1 (TX2 11).2.1 (TX2 11).2.2.1 ∈ tg_gG := tg_mem (List.mem_of_getElem? (i := 245) (by decide +kernel)) (by decide +kernel)
theorem wf_X2_84 : Cond.fieldLink RX2 84 (TX3 3).1 (TX3 3).2.1 (TX3 3).2.2.1 ∈ tg_gG := tg_mem (List.mem_of_getElem? (i := 159) (by decide +kernel)) (by decide +kernel)
theorem wm_X2_89 : Cond.methodLink RX2 89 yX3_happens ∈ tg_gG := tg_mem (List.mem_of_getElem? (i := 347) (by decide +kernel)) (by decide +kernel)
theorem wf_X2_93 : Cond.fieldLink RX2 93 (TX3 0).1 (TX3 0).2.1 (TX3 0).2.2.1 ∈ tg_gG := tg_mem (List.mem_of_getElem? (i := 154) (by decide +kernel)) (by decide +kernel)
theorem wf_X2_40 : Cond.fieldLink RX2 40 (TX2 9).1 (TX2 9).2.1 (TX2 9).2.2.1 ∈ tg_gG := tg_mem (List.mem_of_getElem? (i := 243) (by decide +kernel)) (by decide +kernel)
theorem wm_X2_99 : Cond.methodLink RX2 99 Lib.Math.min.name ∈ tg_gG := tg_mem (List.mem_of_getElem? (i := 351) (by decide +kernel)) (by decide +kernel)
theorem wt_Mmin : Cond.static Lib.Math.min.name ∈ tg_gG := tg_mem (List.mem_of_getElem? (i := 352) (by decide +kernel)) (by decide +kernel)
theorem wi_Math : Cond.initialized "java/lang/Math" ∈ tg_gG := tg_mem (List.mem_of_getElem? (i := 84) (by decide +kernel)) (by decide +kernel)
theorem wc_Mmin : Cond.code Lib.Math.min.name Lib.Math.min.code 2 (some .int) ∈ tg_gG := tg_mem (List.mem_of_getElem? (i := 353) (by decide +kernel)) (by decide +kernel)
theorem wf_X2_96 : Cond.fieldLink RX2 96 (TX3 2).1 (TX3 2).2.1 (TX3 2).2.2.1 ∈ tg_gG := tg_mem (List.mem_of_getElem? (i := 157) (by decide +kernel)) (by decide +kernel)
theorem wc_X2_meetEvents : Cond.code yX2_meetEvents cX2_meetEvents 5 none ∈ tg_gG := tg_mem (List.mem_of_getElem? (i := 346) (by decide +kernel)) (by decide +kernel)
theorem wi_X2 : Cond.initialized RX2 ∈ tg_gG := tg_mem (List.mem_of_getElem? (i := 81) (by decide +kernel)) (by decide +kernel)
theorem wv_X2_meetEvents : Cond.instanceMethod yX2_meetEvents ∈ tg_gG := tg_mem (List.mem_of_getElem? (i := 345) (by decide +kernel)) (by decide +kernel)
theorem ws_X2_meetEvents : Cond.selects yX2_meetEvents.cls yX2_meetEvents yX2_meetEvents ∈ tg_gG := tg_mem (List.mem_of_getElem? (i := 4) (by decide +kernel)) (by decide +kernel)
theorem wf_X2_37 : Cond.fieldLink RX2 37 (TX2 8).1 (TX2 8).2.1 (TX2 8).2.2.1 ∈ tg_gG := tg_mem (List.mem_of_getElem? (i := 242) (by decide +kernel)) (by decide +kernel)
theorem wm_X2_118 : Cond.methodLink RX2 118 Lib.Math.max.name ∈ tg_gG := tg_mem (List.mem_of_getElem? (i := 362) (by decide +kernel)) (by decide +kernel)
theorem wt_Mmax : Cond.static Lib.Math.max.name ∈ tg_gG := tg_mem (List.mem_of_getElem? (i := 363) (by decide +kernel)) (by decide +kernel)
theorem wc_Mmax : Cond.code Lib.Math.max.name Lib.Math.max.code 2 (some .int) ∈ tg_gG := tg_mem (List.mem_of_getElem? (i := 364) (by decide +kernel)) (by decide +kernel)
theorem wf_X2_27 : Cond.fieldLink RX2 27 (TX2 5).1 (TX2 5).2.1 (TX2 5).2.2.1 ∈ tg_gG := tg_mem (List.mem_of_getElem? (i := 237) (by decide +kernel)) (by decide +kernel)
theorem wf_X2_31 : Cond.fieldLink RX2 31 (TX2 6).1 (TX2 6).2.1 (TX2 6).2.2.1 ∈ tg_gG := tg_mem (List.mem_of_getElem? (i := 239) (by decide +kernel)) (by decide +kernel)
theorem wc_X2_moveRope : Cond.code yX2_moveRope cX2_moveRope 3 none ∈ tg_gG := tg_mem (List.mem_of_getElem? (i := 368) (by decide +kernel)) (by decide +kernel)
theorem wv_X2_moveRope : Cond.instanceMethod yX2_moveRope ∈ tg_gG := tg_mem (List.mem_of_getElem? (i := 367) (by decide +kernel)) (by decide +kernel)
theorem ws_X2_moveRope : Cond.selects yX2_moveRope.cls yX2_moveRope yX2_moveRope ∈ tg_gG := tg_mem (List.mem_of_getElem? (i := 7) (by decide +kernel)) (by decide +kernel)
theorem wf_X2_115 : Cond.fieldLink RX2 115 (TX1 1).1 (TX1 1).2.1 (TX1 1).2.2.1 ∈ tg_gG := tg_mem (List.mem_of_getElem? (i := 179) (by decide +kernel)) (by decide +kernel)
theorem wf_X2_121 : Cond.fieldLink RX2 121 (TX1 5).1 (TX1 5).2.1 (TX1 5).2.2.1 ∈ tg_gG := tg_mem (List.mem_of_getElem? (i := 190) (by decide +kernel)) (by decide +kernel)
theorem wf_X2_124 : Cond.fieldLink RX2 124 (TX1 2).1 (TX1 2).2.1 (TX1 2).2.2.1 ∈ tg_gG := tg_mem (List.mem_of_getElem? (i := 182) (by decide +kernel)) (by decide +kernel)
theorem wf_X2_34 : Cond.fieldLink RX2 34 (TX2 7).1 (TX2 7).2.1 (TX2 7).2.2.1 ∈ tg_gG := tg_mem (List.mem_of_getElem? (i := 241) (by decide +kernel)) (by decide +kernel)
theorem wf_X2_55 : Cond.fieldLink RX2 55 (TX1 3).1 (TX1 3).2.1 (TX1 3).2.2.1 ∈ tg_gG := tg_mem (List.mem_of_getElem? (i := 185) (by decide +kernel)) (by decide +kernel)
theorem wc_X2_forceOf : Cond.code yX2_forceOf cX2_forceOf 8 (some .int) ∈ tg_gG := tg_mem (List.mem_of_getElem? (i := 361) (by decide +kernel)) (by decide +kernel)
theorem wv_X2_forceOf : Cond.instanceMethod yX2_forceOf ∈ tg_gG := tg_mem (List.mem_of_getElem? (i := 360) (by decide +kernel)) (by decide +kernel)
theorem ws_X2_forceOf : Cond.selects yX2_forceOf.cls yX2_forceOf yX2_forceOf ∈ tg_gG := tg_mem (List.mem_of_getElem? (i := 6) (by decide +kernel)) (by decide +kernel)
theorem wf_X2_105 : Cond.fieldLink RX2 105 (TX1 6).1 (TX1 6).2.1 (TX1 6).2.2.1 ∈ tg_gG := tg_mem (List.mem_of_getElem? (i := 193) (by decide +kernel)) (by decide +kernel)
theorem wf_X2_108 : Cond.fieldLink RX2 108 (TX1 0).1 (TX1 0).2.1 (TX1 0).2.2.1 ∈ tg_gG := tg_mem (List.mem_of_getElem? (i := 176) (by decide +kernel)) (by decide +kernel)
theorem wm_X2_112 : Cond.methodLink RX2 112 yX2_forceOf ∈ tg_gG := tg_mem (List.mem_of_getElem? (i := 358) (by decide +kernel)) (by decide +kernel)
theorem wf_X2_21 : Cond.fieldLink RX2 21 (TX2 3).1 (TX2 3).2.1 (TX2 3).2.2.1 ∈ tg_gG := tg_mem (List.mem_of_getElem? (i := 233) (by decide +kernel)) (by decide +kernel)
theorem wf_X2_24 : Cond.fieldLink RX2 24 (TX2 4).1 (TX2 4).2.1 (TX2 4).2.2.1 ∈ tg_gG := tg_mem (List.mem_of_getElem? (i := 235) (by decide +kernel)) (by decide +kernel)
theorem wc_X2_pullOfTeam : Cond.code yX2_pullOfTeam cX2_pullOfTeam 10 (some .int) ∈ tg_gG := tg_mem (List.mem_of_getElem? (i := 357) (by decide +kernel)) (by decide +kernel)
theorem wv_X2_pullOfTeam : Cond.instanceMethod yX2_pullOfTeam ∈ tg_gG := tg_mem (List.mem_of_getElem? (i := 356) (by decide +kernel)) (by decide +kernel)
theorem ws_X2_pullOfTeam : Cond.selects yX2_pullOfTeam.cls yX2_pullOfTeam yX2_pullOfTeam ∈ tg_gG := tg_mem (List.mem_of_getElem? (i := 5) (by decide +kernel)) (by decide +kernel)
theorem wc_X2_standStill : Cond.code yX2_standStill cX2_standStill 3 none ∈ tg_gG := tg_mem (List.mem_of_getElem? (i := 372) (by decide +kernel)) (by decide +kernel)
theorem wv_X2_standStill : Cond.instanceMethod yX2_standStill ∈ tg_gG := tg_mem (List.mem_of_getElem? (i := 371) (by decide +kernel)) (by decide +kernel)
theorem ws_X2_standStill : Cond.selects yX2_standStill.cls yX2_standStill yX2_standStill ∈ tg_gG := tg_mem (List.mem_of_getElem? (i := 8) (by decide +kernel)) (by decide +kernel)
theorem wf_X2_50 : Cond.fieldLink RX2 50 (TX1 8).1 (TX1 8).2.1 (TX1 8).2.2.1 ∈ tg_gG := tg_mem (List.mem_of_getElem? (i := 199) (by decide +kernel)) (by decide +kernel)
theorem wm_X2_58 : Cond.methodLink RX2 58 arraycopyName ∈ tg_gG := tg_mem (List.mem_of_getElem? (i := 340) (by decide +kernel)) (by decide +kernel)
theorem wf_X2_64 : Cond.fieldLink RX2 64 (TX1 7).1 (TX1 7).2.1 (TX1 7).2.2.1 ∈ tg_gG := tg_mem (List.mem_of_getElem? (i := 196) (by decide +kernel)) (by decide +kernel)
theorem wm_X2_68 : Cond.methodLink RX2 68 yX2_meetEvents ∈ tg_gG := tg_mem (List.mem_of_getElem? (i := 343) (by decide +kernel)) (by decide +kernel)
theorem wm_X2_72 : Cond.methodLink RX2 72 yX2_pullOfTeam ∈ tg_gG := tg_mem (List.mem_of_getElem? (i := 354) (by decide +kernel)) (by decide +kernel)
theorem wm_X2_80 : Cond.methodLink RX2 80 yX2_standStill ∈ tg_gG := tg_mem (List.mem_of_getElem? (i := 369) (by decide +kernel)) (by decide +kernel)
theorem wm_X2_76 : Cond.methodLink RX2 76 yX2_moveRope ∈ tg_gG := tg_mem (List.mem_of_getElem? (i := 365) (by decide +kernel)) (by decide +kernel)
theorem wf_X2_9 : Cond.fieldLink RX2 9 (TX2 0).1 (TX2 0).2.1 (TX2 0).2.2.1 ∈ tg_gG := tg_mem (List.mem_of_getElem? (i := 226) (by decide +kernel)) (by decide +kernel)
theorem wf_X2_15 : Cond.fieldLink RX2 15 (TX2 1).1 (TX2 1).2.1 (TX2 1).2.2.1 ∈ tg_gG := tg_mem (List.mem_of_getElem? (i := 229) (by decide +kernel)) (by decide +kernel)
theorem wf_X2_18 : Cond.fieldLink RX2 18 (TX2 2).1 (TX2 2).2.1 (TX2 2).2.2.1 ∈ tg_gG := tg_mem (List.mem_of_getElem? (i := 231) (by decide +kernel)) (by decide +kernel)
theorem wc_X2_play : Cond.code yX2_play cX2_play 6 (some .int) ∈ tg_gG := tg_mem (List.mem_of_getElem? (i := 339) (by decide +kernel)) (by decide +kernel)
theorem wv_X2_play : Cond.instanceMethod yX2_play ∈ tg_gG := tg_mem (List.mem_of_getElem? (i := 337) (by decide +kernel)) (by decide +kernel)
theorem ws_X2_play : Cond.selects yX2_play.cls yX2_play yX2_play ∈ tg_gG := tg_mem (List.mem_of_getElem? (i := 338) (by decide +kernel)) (by decide +kernel)
theorem wf_X7_44 : Cond.fieldLink RX7 44 (TX7 5).1 (TX7 5).2.1 (TX7 5).2.2.1 ∈ tg_gG := tg_mem (List.mem_of_getElem? (i := 378) (by decide +kernel)) (by decide +kernel)
theorem wf_X7_37 : Cond.fieldLink RX7 37 (TX7 4).1 (TX7 4).2.1 (TX7 4).2.2.1 ∈ tg_gG := tg_mem (List.mem_of_getElem? (i := 377) (by decide +kernel)) (by decide +kernel)
theorem wm_X7_198 : Cond.methodLink RX7 198 yX2_play ∈ tg_gG := tg_mem (List.mem_of_getElem? (i := 336) (by decide +kernel)) (by decide +kernel)
theorem wf_X7_68 : Cond.fieldLink RX7 68 (TX7 11).1 (TX7 11).2.1 (TX7 11).2.2.1 ∈ tg_gG := tg_mem (List.mem_of_getElem? (i := 384) (by decide +kernel)) (by decide +kernel)
theorem wc_X7_playTold : Cond.code yX7_playTold cX7_playTold 1 none ∈ tg_gG := tg_mem (List.mem_of_getElem? (i := 335) (by decide +kernel)) (by decide +kernel)
theorem wv_X7_playTold : Cond.instanceMethod yX7_playTold ∈ tg_gG := tg_mem (List.mem_of_getElem? (i := 334) (by decide +kernel)) (by decide +kernel)
theorem ws_X7_playTold : Cond.selects yX7_playTold.cls yX7_playTold yX7_playTold ∈ tg_gG := tg_mem (List.mem_of_getElem? (i := 3) (by decide +kernel)) (by decide +kernel)
theorem wf_X7_10 : Cond.fieldLink RX7 10 (TX7 0).1 (TX7 0).2.1 (TX7 0).2.2.1 ∈ tg_gG := tg_mem (List.mem_of_getElem? (i := 373) (by decide +kernel)) (by decide +kernel)
theorem wm_X7_369 : Cond.methodLink RX7 369 yX1_takeTexts ∈ tg_gG := tg_mem (List.mem_of_getElem? (i := 297) (by decide +kernel)) (by decide +kernel)
theorem wm_X7_118 : Cond.methodLink RX7 118 yX7_playTold ∈ tg_gG := tg_mem (List.mem_of_getElem? (i := 332) (by decide +kernel)) (by decide +kernel)
theorem wc_X7_playTexts : Cond.code yX7_playTexts cX7_playTexts 1 none ∈ tg_gG := tg_mem (List.mem_of_getElem? (i := 296) (by decide +kernel)) (by decide +kernel)
theorem wv_X7_playTexts : Cond.instanceMethod yX7_playTexts ∈ tg_gG := tg_mem (List.mem_of_getElem? (i := 295) (by decide +kernel)) (by decide +kernel)
theorem ws_X7_playTexts : Cond.selects yX7_playTexts.cls yX7_playTexts yX7_playTexts ∈ tg_gG := tg_mem (List.mem_of_getElem? (i := 0) (by decide +kernel)) (by decide +kernel)
theorem wm_X7_75 : Cond.methodLink RX7 75 yX7_isBelow ∈ tg_gG := tg_mem (List.mem_of_getElem? (i := 414) (by decide +kernel)) (by decide +kernel)
theorem wm_X7_79 : Cond.methodLink RX7 79 yX6_isFull ∈ tg_gG := tg_mem (List.mem_of_getElem? (i := 417) (by decide +kernel)) (by decide +kernel)
theorem wm_X7_83 : Cond.methodLink RX7 83 yX6_append ∈ tg_gG := tg_mem (List.mem_of_getElem? (i := 421) (by decide +kernel)) (by decide +kernel)
theorem wm_X7_72 : Cond.methodLink RX7 72 yX7_playTexts ∈ tg_gG := tg_mem (List.mem_of_getElem? (i := 293) (by decide +kernel)) (by decide +kernel)
theorem wc_X7_type : Cond.code yX7_type cX7_type 4 (some .int) ∈ tg_gG := tg_mem (List.mem_of_getElem? (i := 413) (by decide +kernel)) (by decide +kernel)
theorem wv_X7_type : Cond.instanceMethod yX7_type ∈ tg_gG := tg_mem (List.mem_of_getElem? (i := 411) (by decide +kernel)) (by decide +kernel)
theorem ws_X7_type : Cond.selects yX7_type.cls yX7_type yX7_type ∈ tg_gG := tg_mem (List.mem_of_getElem? (i := 412) (by decide +kernel)) (by decide +kernel)
theorem wm_X7_87 : Cond.methodLink RX7 87 yX6_clear ∈ tg_gG := tg_mem (List.mem_of_getElem? (i := 429) (by decide +kernel)) (by decide +kernel)
theorem wc_X7_wipe : Cond.code yX7_wipe cX7_wipe 3 (some .int) ∈ tg_gG := tg_mem (List.mem_of_getElem? (i := 428) (by decide +kernel)) (by decide +kernel)
theorem wv_X7_wipe : Cond.instanceMethod yX7_wipe ∈ tg_gG := tg_mem (List.mem_of_getElem? (i := 426) (by decide +kernel)) (by decide +kernel)
theorem ws_X7_wipe : Cond.selects yX7_wipe.cls yX7_wipe yX7_wipe ∈ tg_gG := tg_mem (List.mem_of_getElem? (i := 427) (by decide +kernel)) (by decide +kernel)
theorem wm_X7_91 : Cond.methodLink RX7 91 yX6_length ∈ tg_gG := tg_mem (List.mem_of_getElem? (i := 437) (by decide +kernel)) (by decide +kernel)
theorem wm_X7_94 : Cond.methodLink RX7 94 yX6_cutLast ∈ tg_gG := tg_mem (List.mem_of_getElem? (i := 441) (by decide +kernel)) (by decide +kernel)
theorem wc_X7_undo : Cond.code yX7_undo cX7_undo 3 (some .int) ∈ tg_gG := tg_mem (List.mem_of_getElem? (i := 436) (by decide +kernel)) (by decide +kernel)
theorem wv_X7_undo : Cond.instanceMethod yX7_undo ∈ tg_gG := tg_mem (List.mem_of_getElem? (i := 434) (by decide +kernel)) (by decide +kernel)
theorem ws_X7_undo : Cond.selects yX7_undo.cls yX7_undo yX7_undo ∈ tg_gG := tg_mem (List.mem_of_getElem? (i := 435) (by decide +kernel)) (by decide +kernel)
theorem wm_X7_97 : Cond.methodLink RX7 97 yX6_firstFault ∈ tg_gG := tg_mem (List.mem_of_getElem? (i := 449) (by decide +kernel)) (by decide +kernel)
theorem wc_X7_fault : Cond.code yX7_fault cX7_fault 2 (some .int) ∈ tg_gG := tg_mem (List.mem_of_getElem? (i := 448) (by decide +kernel)) (by decide +kernel)
theorem wv_X7_fault : Cond.instanceMethod yX7_fault ∈ tg_gG := tg_mem (List.mem_of_getElem? (i := 446) (by decide +kernel)) (by decide +kernel)
theorem ws_X7_fault : Cond.selects yX7_fault.cls yX7_fault yX7_fault ∈ tg_gG := tg_mem (List.mem_of_getElem? (i := 447) (by decide +kernel)) (by decide +kernel)
theorem wf_X7_186 : Cond.fieldLink RX7 186 (TX1 0).1 (TX1 0).2.1 (TX1 0).2.2.1 ∈ tg_gG := tg_mem (List.mem_of_getElem? (i := 177) (by decide +kernel)) (by decide +kernel)
theorem wc_X7_isPuller : Cond.code yX7_isPuller cX7_isPuller 2 (some .boolean) ∈ tg_gG := tg_mem (List.mem_of_getElem? (i := 457) (by decide +kernel)) (by decide +kernel)
theorem wv_X7_isPuller : Cond.instanceMethod yX7_isPuller ∈ tg_gG := tg_mem (List.mem_of_getElem? (i := 456) (by decide +kernel)) (by decide +kernel)
theorem ws_X7_isPuller : Cond.selects yX7_isPuller.cls yX7_isPuller yX7_isPuller ∈ tg_gG := tg_mem (List.mem_of_getElem? (i := 9) (by decide +kernel)) (by decide +kernel)
theorem wm_X7_100 : Cond.methodLink RX7 100 yX7_isPuller ∈ tg_gG := tg_mem (List.mem_of_getElem? (i := 454) (by decide +kernel)) (by decide +kernel)
theorem wf_X7_109 : Cond.fieldLink RX7 109 (TX1 3).1 (TX1 3).2.1 (TX1 3).2.2.1 ∈ tg_gG := tg_mem (List.mem_of_getElem? (i := 186) (by decide +kernel)) (by decide +kernel)
theorem wf_X7_106 : Cond.fieldLink RX7 106 (TX1 2).1 (TX1 2).2.1 (TX1 2).2.2.1 ∈ tg_gG := tg_mem (List.mem_of_getElem? (i := 183) (by decide +kernel)) (by decide +kernel)
theorem wf_X7_103 : Cond.fieldLink RX7 103 (TX1 1).1 (TX1 1).2.1 (TX1 1).2.2.1 ∈ tg_gG := tg_mem (List.mem_of_getElem? (i := 180) (by decide +kernel)) (by decide +kernel)
theorem wc_X7_puller : Cond.code yX7_puller cX7_puller 3 (some .int) ∈ tg_gG := tg_mem (List.mem_of_getElem? (i := 453) (by decide +kernel)) (by decide +kernel)
theorem wv_X7_puller : Cond.instanceMethod yX7_puller ∈ tg_gG := tg_mem (List.mem_of_getElem? (i := 451) (by decide +kernel)) (by decide +kernel)
theorem ws_X7_puller : Cond.selects yX7_puller.cls yX7_puller yX7_puller ∈ tg_gG := tg_mem (List.mem_of_getElem? (i := 452) (by decide +kernel)) (by decide +kernel)
theorem wf_X7_112 : Cond.fieldLink RX7 112 (TX1 6).1 (TX1 6).2.1 (TX1 6).2.2.1 ∈ tg_gG := tg_mem (List.mem_of_getElem? (i := 194) (by decide +kernel)) (by decide +kernel)
theorem wc_X7_call : Cond.code yX7_call cX7_call 3 (some .int) ∈ tg_gG := tg_mem (List.mem_of_getElem? (i := 461) (by decide +kernel)) (by decide +kernel)
theorem wv_X7_call : Cond.instanceMethod yX7_call ∈ tg_gG := tg_mem (List.mem_of_getElem? (i := 459) (by decide +kernel)) (by decide +kernel)
theorem ws_X7_call : Cond.selects yX7_call.cls yX7_call yX7_call ∈ tg_gG := tg_mem (List.mem_of_getElem? (i := 460) (by decide +kernel)) (by decide +kernel)
theorem wf_X7_115 : Cond.fieldLink RX7 115 (TX1 8).1 (TX1 8).2.1 (TX1 8).2.2.1 ∈ tg_gG := tg_mem (List.mem_of_getElem? (i := 200) (by decide +kernel)) (by decide +kernel)
theorem wc_X7_mud : Cond.code yX7_mud cX7_mud 3 (some .int) ∈ tg_gG := tg_mem (List.mem_of_getElem? (i := 465) (by decide +kernel)) (by decide +kernel)
theorem wv_X7_mud : Cond.instanceMethod yX7_mud ∈ tg_gG := tg_mem (List.mem_of_getElem? (i := 463) (by decide +kernel)) (by decide +kernel)
theorem ws_X7_mud : Cond.selects yX7_mud.cls yX7_mud yX7_mud ∈ tg_gG := tg_mem (List.mem_of_getElem? (i := 464) (by decide +kernel)) (by decide +kernel)
theorem wf_X3_9 : Cond.fieldLink RX3 9 (TX3 0).1 (TX3 0).2.1 (TX3 0).2.2.1 ∈ tg_gG := tg_mem (List.mem_of_getElem? (i := 153) (by decide +kernel)) (by decide +kernel)
theorem wf_X3_21 : Cond.fieldLink RX3 21 (TX3 3).1 (TX3 3).2.1 (TX3 3).2.2.1 ∈ tg_gG := tg_mem (List.mem_of_getElem? (i := 158) (by decide +kernel)) (by decide +kernel)
theorem wf_X3_18 : Cond.fieldLink RX3 18 (TX3 2).1 (TX3 2).2.1 (TX3 2).2.2.1 ∈ tg_gG := tg_mem (List.mem_of_getElem? (i := 156) (by decide +kernel)) (by decide +kernel)
theorem wc_X3_append : Cond.code yX3_append cX3_append 4 (some .int) ∈ tg_gG := tg_mem (List.mem_of_getElem? (i := 477) (by decide +kernel)) (by decide +kernel)
theorem wv_X3_append : Cond.instanceMethod yX3_append ∈ tg_gG := tg_mem (List.mem_of_getElem? (i := 475) (by decide +kernel)) (by decide +kernel)
theorem ws_X3_append : Cond.selects yX3_append.cls yX3_append yX3_append ∈ tg_gG := tg_mem (List.mem_of_getElem? (i := 476) (by decide +kernel)) (by decide +kernel)
theorem wc_X3_mayBe : Cond.code yX3_mayBe cX3_mayBe 3 (some .boolean) ∈ tg_gG := tg_mem (List.mem_of_getElem? (i := 472) (by decide +kernel)) (by decide +kernel)
theorem wt_X3_mayBe : Cond.static yX3_mayBe ∈ tg_gG := tg_mem (List.mem_of_getElem? (i := 471) (by decide +kernel)) (by decide +kernel)
theorem wm_X7_121 : Cond.methodLink RX7 121 yX3_mayBe ∈ tg_gG := tg_mem (List.mem_of_getElem? (i := 470) (by decide +kernel)) (by decide +kernel)
theorem wf_X7_127 : Cond.fieldLink RX7 127 (TX1 7).1 (TX1 7).2.1 (TX1 7).2.2.1 ∈ tg_gG := tg_mem (List.mem_of_getElem? (i := 197) (by decide +kernel)) (by decide +kernel)
theorem wf_X7_131 : Cond.fieldLink RX7 131 (TX3 3).1 (TX3 3).2.1 (TX3 3).2.2.1 ∈ tg_gG := tg_mem (List.mem_of_getElem? (i := 160) (by decide +kernel)) (by decide +kernel)
theorem wm_X7_134 : Cond.methodLink RX7 134 yX3_append ∈ tg_gG := tg_mem (List.mem_of_getElem? (i := 474) (by decide +kernel)) (by decide +kernel)
theorem wc_X7_event : Cond.code yX7_event cX7_event 5 (some .int) ∈ tg_gG := tg_mem (List.mem_of_getElem? (i := 469) (by decide +kernel)) (by decide +kernel)
theorem wv_X7_event : Cond.instanceMethod yX7_event ∈ tg_gG := tg_mem (List.mem_of_getElem? (i := 467) (by decide +kernel)) (by decide +kernel)
theorem ws_X7_event : Cond.selects yX7_event.cls yX7_event yX7_event ∈ tg_gG := tg_mem (List.mem_of_getElem? (i := 468) (by decide +kernel)) (by decide +kernel)
theorem wc_X3_cutLast : Cond.code yX3_cutLast cX3_cutLast 1 (some .int) ∈ tg_gG := tg_mem (List.mem_of_getElem? (i := 485) (by decide +kernel)) (by decide +kernel)
theorem wv_X3_cutLast : Cond.instanceMethod yX3_cutLast ∈ tg_gG := tg_mem (List.mem_of_getElem? (i := 483) (by decide +kernel)) (by decide +kernel)
theorem ws_X3_cutLast : Cond.selects yX3_cutLast.cls yX3_cutLast yX3_cutLast ∈ tg_gG := tg_mem (List.mem_of_getElem? (i := 484) (by decide +kernel)) (by decide +kernel)
theorem wm_X7_137 : Cond.methodLink RX7 137 yX3_cutLast ∈ tg_gG := tg_mem (List.mem_of_getElem? (i := 482) (by decide +kernel)) (by decide +kernel)
theorem wc_X7_back : Cond.code yX7_back cX7_back 2 (some .int) ∈ tg_gG := tg_mem (List.mem_of_getElem? (i := 481) (by decide +kernel)) (by decide +kernel)
theorem wv_X7_back : Cond.instanceMethod yX7_back ∈ tg_gG := tg_mem (List.mem_of_getElem? (i := 479) (by decide +kernel)) (by decide +kernel)
theorem ws_X7_back : Cond.selects yX7_back.cls yX7_back yX7_back ∈ tg_gG := tg_mem (List.mem_of_getElem? (i := 480) (by decide +kernel)) (by decide +kernel)
theorem wf_X7_30 : Cond.fieldLink RX7 30 (TX7 3).1 (TX7 3).2.1 (TX7 3).2.2.1 ∈ tg_gG := tg_mem (List.mem_of_getElem? (i := 376) (by decide +kernel)) (by decide +kernel)
theorem wc_X7_found : Cond.code yX7_found cX7_found 2 (some .int) ∈ tg_gG := tg_mem (List.mem_of_getElem? (i := 497) (by decide +kernel)) (by decide +kernel)
theorem wv_X7_found : Cond.instanceMethod yX7_found ∈ tg_gG := tg_mem (List.mem_of_getElem? (i := 496) (by decide +kernel)) (by decide +kernel)
theorem ws_X7_found : Cond.selects yX7_found.cls yX7_found yX7_found ∈ tg_gG := tg_mem (List.mem_of_getElem? (i := 10) (by decide +kernel)) (by decide +kernel)
theorem wf_X7_26 : Cond.fieldLink RX7 26 (TX7 2).1 (TX7 2).2.1 (TX7 2).2.2.1 ∈ tg_gG := tg_mem (List.mem_of_getElem? (i := 375) (by decide +kernel)) (by decide +kernel)
theorem wm_X7_140 : Cond.methodLink RX7 140 yX5_isLost ∈ tg_gG := tg_mem (List.mem_of_getElem? (i := 490) (by decide +kernel)) (by decide +kernel)
theorem wm_X7_143 : Cond.methodLink RX7 143 yX7_found ∈ tg_gG := tg_mem (List.mem_of_getElem? (i := 494) (by decide +kernel)) (by decide +kernel)
theorem wm_X7_146 : Cond.methodLink RX7 146 yX5_size ∈ tg_gG := tg_mem (List.mem_of_getElem? (i := 498) (by decide +kernel)) (by decide +kernel)
theorem wm_X7_148 : Cond.methodLink RX7 148 yX5_item ∈ tg_gG := tg_mem (List.mem_of_getElem? (i := 502) (by decide +kernel)) (by decide +kernel)
theorem wm_X7_151 : Cond.methodLink RX7 151 yX7_event ∈ tg_gG := tg_mem (List.mem_of_getElem? (i := 506) (by decide +kernel)) (by decide +kernel)
theorem wc_X7_read : Cond.code yX7_read cX7_read 5 (some .int) ∈ tg_gG := tg_mem (List.mem_of_getElem? (i := 489) (by decide +kernel)) (by decide +kernel)
theorem wv_X7_read : Cond.instanceMethod yX7_read ∈ tg_gG := tg_mem (List.mem_of_getElem? (i := 487) (by decide +kernel)) (by decide +kernel)
theorem ws_X7_read : Cond.selects yX7_read.cls yX7_read yX7_read ∈ tg_gG := tg_mem (List.mem_of_getElem? (i := 488) (by decide +kernel)) (by decide +kernel)
theorem wf_X7_154 : Cond.fieldLink RX7 154 (TX2 0).1 (TX2 0).2.1 (TX2 0).2.2.1 ∈ tg_gG := tg_mem (List.mem_of_getElem? (i := 228) (by decide +kernel)) (by decide +kernel)
theorem wf_X7_157 : Cond.fieldLink RX7 157 (TX2 2).1 (TX2 2).2.1 (TX2 2).2.2.1 ∈ tg_gG := tg_mem (List.mem_of_getElem? (i := 232) (by decide +kernel)) (by decide +kernel)
theorem wf_X7_160 : Cond.fieldLink RX7 160 (TX2 1).1 (TX2 1).2.1 (TX2 1).2.2.1 ∈ tg_gG := tg_mem (List.mem_of_getElem? (i := 230) (by decide +kernel)) (by decide +kernel)
theorem wc_X7_rope : Cond.code yX7_rope cX7_rope 3 (some .int) ∈ tg_gG := tg_mem (List.mem_of_getElem? (i := 510) (by decide +kernel)) (by decide +kernel)
theorem wv_X7_rope : Cond.instanceMethod yX7_rope ∈ tg_gG := tg_mem (List.mem_of_getElem? (i := 508) (by decide +kernel)) (by decide +kernel)
theorem ws_X7_rope : Cond.selects yX7_rope.cls yX7_rope yX7_rope ∈ tg_gG := tg_mem (List.mem_of_getElem? (i := 509) (by decide +kernel)) (by decide +kernel)
theorem wf_X7_166 : Cond.fieldLink RX7 166 (TX2 4).1 (TX2 4).2.1 (TX2 4).2.2.1 ∈ tg_gG := tg_mem (List.mem_of_getElem? (i := 236) (by decide +kernel)) (by decide +kernel)
theorem wf_X7_163 : Cond.fieldLink RX7 163 (TX2 3).1 (TX2 3).2.1 (TX2 3).2.2.1 ∈ tg_gG := tg_mem (List.mem_of_getElem? (i := 234) (by decide +kernel)) (by decide +kernel)
theorem wc_X7_at : Cond.code yX7_at cX7_at 5 (some .int) ∈ tg_gG := tg_mem (List.mem_of_getElem? (i := 514) (by decide +kernel)) (by decide +kernel)
theorem wv_X7_at : Cond.instanceMethod yX7_at ∈ tg_gG := tg_mem (List.mem_of_getElem? (i := 512) (by decide +kernel)) (by decide +kernel)
theorem ws_X7_at : Cond.selects yX7_at.cls yX7_at yX7_at ∈ tg_gG := tg_mem (List.mem_of_getElem? (i := 513) (by decide +kernel)) (by decide +kernel)
theorem wf_X7_172 : Cond.fieldLink RX7 172 (TX2 6).1 (TX2 6).2.1 (TX2 6).2.2.1 ∈ tg_gG := tg_mem (List.mem_of_getElem? (i := 240) (by decide +kernel)) (by decide +kernel)
theorem wf_X7_169 : Cond.fieldLink RX7 169 (TX2 5).1 (TX2 5).2.1 (TX2 5).2.2.1 ∈ tg_gG := tg_mem (List.mem_of_getElem? (i := 238) (by decide +kernel)) (by decide +kernel)
theorem wc_X7_won : Cond.code yX7_won cX7_won 2 (some .int) ∈ tg_gG := tg_mem (List.mem_of_getElem? (i := 518) (by decide +kernel)) (by decide +kernel)
theorem wv_X7_won : Cond.instanceMethod yX7_won ∈ tg_gG := tg_mem (List.mem_of_getElem? (i := 516) (by decide +kernel)) (by decide +kernel)
theorem ws_X7_won : Cond.selects yX7_won.cls yX7_won yX7_won ∈ tg_gG := tg_mem (List.mem_of_getElem? (i := 517) (by decide +kernel)) (by decide +kernel)
theorem wm_X7_180 : Cond.methodLink RX7 180 Lib.Math.min.name ∈ tg_gG := tg_mem (List.mem_of_getElem? (i := 524) (by decide +kernel)) (by decide +kernel)
theorem wm_X7_175 : Cond.methodLink RX7 175 Lib.Math.max.name ∈ tg_gG := tg_mem (List.mem_of_getElem? (i := 523) (by decide +kernel)) (by decide +kernel)
theorem wc_X7_furthest : Cond.code yX7_furthest cX7_furthest 5 (some .int) ∈ tg_gG := tg_mem (List.mem_of_getElem? (i := 522) (by decide +kernel)) (by decide +kernel)
theorem wv_X7_furthest : Cond.instanceMethod yX7_furthest ∈ tg_gG := tg_mem (List.mem_of_getElem? (i := 520) (by decide +kernel)) (by decide +kernel)
theorem ws_X7_furthest : Cond.selects yX7_furthest.cls yX7_furthest yX7_furthest ∈ tg_gG := tg_mem (List.mem_of_getElem? (i := 521) (by decide +kernel)) (by decide +kernel)
theorem wc_X7_pulledInAll : Cond.code yX7_pulledInAll cX7_pulledInAll 4 (some .int) ∈ tg_gG := tg_mem (List.mem_of_getElem? (i := 532) (by decide +kernel)) (by decide +kernel)
theorem wv_X7_pulledInAll : Cond.instanceMethod yX7_pulledInAll ∈ tg_gG := tg_mem (List.mem_of_getElem? (i := 531) (by decide +kernel)) (by decide +kernel)
theorem ws_X7_pulledInAll : Cond.selects yX7_pulledInAll.cls yX7_pulledInAll yX7_pulledInAll ∈ tg_gG := tg_mem (List.mem_of_getElem? (i := 11) (by decide +kernel)) (by decide +kernel)
theorem wm_X7_183 : Cond.methodLink RX7 183 yX7_pulledInAll ∈ tg_gG := tg_mem (List.mem_of_getElem? (i := 529) (by decide +kernel)) (by decide +kernel)
theorem wc_X7_done : Cond.code yX7_done cX7_done 2 (some .int) ∈ tg_gG := tg_mem (List.mem_of_getElem? (i := 528) (by decide +kernel)) (by decide +kernel)
theorem wv_X7_done : Cond.instanceMethod yX7_done ∈ tg_gG := tg_mem (List.mem_of_getElem? (i := 526) (by decide +kernel)) (by decide +kernel)
theorem ws_X7_done : Cond.selects yX7_done.cls yX7_done yX7_done ∈ tg_gG := tg_mem (List.mem_of_getElem? (i := 527) (by decide +kernel)) (by decide +kernel)
theorem wc_X7_spent : Cond.code yX7_spent cX7_spent 3 (some .int) ∈ tg_gG := tg_mem (List.mem_of_getElem? (i := 536) (by decide +kernel)) (by decide +kernel)
theorem wv_X7_spent : Cond.instanceMethod yX7_spent ∈ tg_gG := tg_mem (List.mem_of_getElem? (i := 534) (by decide +kernel)) (by decide +kernel)
theorem ws_X7_spent : Cond.selects yX7_spent.cls yX7_spent yX7_spent ∈ tg_gG := tg_mem (List.mem_of_getElem? (i := 535) (by decide +kernel)) (by decide +kernel)
theorem wc_X7_best : Cond.code yX7_best cX7_best 5 (some .int) ∈ tg_gG := tg_mem (List.mem_of_getElem? (i := 540) (by decide +kernel)) (by decide +kernel)
theorem wv_X7_best : Cond.instanceMethod yX7_best ∈ tg_gG := tg_mem (List.mem_of_getElem? (i := 538) (by decide +kernel)) (by decide +kernel)
theorem ws_X7_best : Cond.selects yX7_best.cls yX7_best yX7_best ∈ tg_gG := tg_mem (List.mem_of_getElem? (i := 539) (by decide +kernel)) (by decide +kernel)
theorem wc_X7_level : Cond.code yX7_level cX7_level 4 (some .int) ∈ tg_gG := tg_mem (List.mem_of_getElem? (i := 544) (by decide +kernel)) (by decide +kernel)
theorem wv_X7_level : Cond.instanceMethod yX7_level ∈ tg_gG := tg_mem (List.mem_of_getElem? (i := 542) (by decide +kernel)) (by decide +kernel)
theorem ws_X7_level : Cond.selects yX7_level.cls yX7_level yX7_level ∈ tg_gG := tg_mem (List.mem_of_getElem? (i := 543) (by decide +kernel)) (by decide +kernel)
theorem wm_X3_32 : Cond.methodLink RX3 32 arraycopyName ∈ tg_gG := tg_mem (List.mem_of_getElem? (i := 558) (by decide +kernel)) (by decide +kernel)
theorem wc_X3_takeFrom : Cond.code yX3_takeFrom cX3_takeFrom 2 none ∈ tg_gG := tg_mem (List.mem_of_getElem? (i := 557) (by decide +kernel)) (by decide +kernel)
theorem wv_X3_takeFrom : Cond.instanceMethod yX3_takeFrom ∈ tg_gG := tg_mem (List.mem_of_getElem? (i := 555) (by decide +kernel)) (by decide +kernel)
theorem ws_X3_takeFrom : Cond.selects yX3_takeFrom.cls yX3_takeFrom yX3_takeFrom ∈ tg_gG := tg_mem (List.mem_of_getElem? (i := 556) (by decide +kernel)) (by decide +kernel)
theorem wm_X1_68 : Cond.methodLink RX1 68 arraycopyName ∈ tg_gG := tg_mem (List.mem_of_getElem? (i := 553) (by decide +kernel)) (by decide +kernel)
theorem wf_X1_37 : Cond.fieldLink RX1 37 (TX1 7).1 (TX1 7).2.1 (TX1 7).2.2.1 ∈ tg_gG := tg_mem (List.mem_of_getElem? (i := 195) (by decide +kernel)) (by decide +kernel)
theorem wm_X1_74 : Cond.methodLink RX1 74 yX3_takeFrom ∈ tg_gG := tg_mem (List.mem_of_getElem? (i := 554) (by decide +kernel)) (by decide +kernel)
theorem wf_X1_41 : Cond.fieldLink RX1 41 (TX1 8).1 (TX1 8).2.1 (TX1 8).2.2.1 ∈ tg_gG := tg_mem (List.mem_of_getElem? (i := 198) (by decide +kernel)) (by decide +kernel)
theorem wc_X1_becomeLike : Cond.code yX1_becomeLike cX1_becomeLike 3 none ∈ tg_gG := tg_mem (List.mem_of_getElem? (i := 552) (by decide +kernel)) (by decide +kernel)
theorem wv_X1_becomeLike : Cond.instanceMethod yX1_becomeLike ∈ tg_gG := tg_mem (List.mem_of_getElem? (i := 550) (by decide +kernel)) (by decide +kernel)
theorem ws_X1_becomeLike : Cond.selects yX1_becomeLike.cls yX1_becomeLike yX1_becomeLike ∈ tg_gG := tg_mem (List.mem_of_getElem? (i := 551) (by decide +kernel)) (by decide +kernel)
theorem wf_X7_48 : Cond.fieldLink RX7 48 (TX7 6).1 (TX7 6).2.1 (TX7 6).2.2.1 ∈ tg_gG := tg_mem (List.mem_of_getElem? (i := 379) (by decide +kernel)) (by decide +kernel)
theorem wm_X7_190 : Cond.methodLink RX7 190 yX1_becomeLike ∈ tg_gG := tg_mem (List.mem_of_getElem? (i := 549) (by decide +kernel)) (by decide +kernel)
theorem wf_X7_57 : Cond.fieldLink RX7 57 (TX7 8).1 (TX7 8).2.1 (TX7 8).2.2.1 ∈ tg_gG := tg_mem (List.mem_of_getElem? (i := 381) (by decide +kernel)) (by decide +kernel)
theorem wm_X7_194 : Cond.methodLink RX7 194 yX0_startFor ∈ tg_gG := tg_mem (List.mem_of_getElem? (i := 559) (by decide +kernel)) (by decide +kernel)
theorem wf_X7_209 : Cond.fieldLink RX7 209 (TX0 2).1 (TX0 2).2.1 (TX0 2).2.2.1 ∈ tg_gG := tg_mem (List.mem_of_getElem? (i := 282) (by decide +kernel)) (by decide +kernel)
theorem wf_X7_206 : Cond.fieldLink RX7 206 (TX0 0).1 (TX0 0).2.1 (TX0 0).2.2.1 ∈ tg_gG := tg_mem (List.mem_of_getElem? (i := 278) (by decide +kernel)) (by decide +kernel)
theorem wf_X7_51 : Cond.fieldLink RX7 51 (TX7 7).1 (TX7 7).2.1 (TX7 7).2.2.1 ∈ tg_gG := tg_mem (List.mem_of_getElem? (i := 380) (by decide +kernel)) (by decide +kernel)
theorem wm_X7_202 : Cond.methodLink RX7 202 yX0_offer ∈ tg_gG := tg_mem (List.mem_of_getElem? (i := 563) (by decide +kernel)) (by decide +kernel)
theorem wc_X7_better : Cond.code yX7_better cX7_better 5 (some .int) ∈ tg_gG := tg_mem (List.mem_of_getElem? (i := 548) (by decide +kernel)) (by decide +kernel)
theorem wv_X7_better : Cond.instanceMethod yX7_better ∈ tg_gG := tg_mem (List.mem_of_getElem? (i := 546) (by decide +kernel)) (by decide +kernel)
theorem ws_X7_better : Cond.selects yX7_better.cls yX7_better yX7_better ∈ tg_gG := tg_mem (List.mem_of_getElem? (i := 547) (by decide +kernel)) (by decide +kernel)
theorem wf_X7_281 : Cond.fieldLink RX7 281 (TX1 4).1 (TX1 4).2.1 (TX1 4).2.2.1 ∈ tg_gG := tg_mem (List.mem_of_getElem? (i := 188) (by decide +kernel)) (by decide +kernel)
theorem wf_X7_373 : Cond.fieldLink RX7 373 (TX1 5).1 (TX1 5).2.1 (TX1 5).2.2.1 ∈ tg_gG := tg_mem (List.mem_of_getElem? (i := 191) (by decide +kernel)) (by decide +kernel)
theorem wc_X7_chooseSwap : Cond.code yX7_chooseSwap cX7_chooseSwap 6 none ∈ tg_gG := tg_mem (List.mem_of_getElem? (i := 574) (by decide +kernel)) (by decide +kernel)
theorem wv_X7_chooseSwap : Cond.instanceMethod yX7_chooseSwap ∈ tg_gG := tg_mem (List.mem_of_getElem? (i := 573) (by decide +kernel)) (by decide +kernel)
theorem ws_X7_chooseSwap : Cond.selects yX7_chooseSwap.cls yX7_chooseSwap yX7_chooseSwap ∈ tg_gG := tg_mem (List.mem_of_getElem? (i := 12) (by decide +kernel)) (by decide +kernel)
theorem wm_X7_212 : Cond.methodLink RX7 212 yX7_chooseSwap ∈ tg_gG := tg_mem (List.mem_of_getElem? (i := 571) (by decide +kernel)) (by decide +kernel)
theorem wf_X7_215 : Cond.fieldLink RX7 215 (TX0 1).1 (TX0 1).2.1 (TX0 1).2.2.1 ∈ tg_gG := tg_mem (List.mem_of_getElem? (i := 280) (by decide +kernel)) (by decide +kernel)
theorem wc_X7_swap : Cond.code yX7_swap cX7_swap 3 (some .int) ∈ tg_gG := tg_mem (List.mem_of_getElem? (i := 570) (by decide +kernel)) (by decide +kernel)
theorem wv_X7_swap : Cond.instanceMethod yX7_swap ∈ tg_gG := tg_mem (List.mem_of_getElem? (i := 568) (by decide +kernel)) (by decide +kernel)
theorem ws_X7_swap : Cond.selects yX7_swap.cls yX7_swap yX7_swap ∈ tg_gG := tg_mem (List.mem_of_getElem? (i := 569) (by decide +kernel)) (by decide +kernel)
theorem wc_X1_leaveOut : Cond.code yX1_leaveOut cX1_leaveOut 3 none ∈ tg_gG := tg_mem (List.mem_of_getElem? (i := 586) (by decide +kernel)) (by decide +kernel)
theorem wv_X1_leaveOut : Cond.instanceMethod yX1_leaveOut ∈ tg_gG := tg_mem (List.mem_of_getElem? (i := 584) (by decide +kernel)) (by decide +kernel)
theorem ws_X1_leaveOut : Cond.selects yX1_leaveOut.cls yX1_leaveOut yX1_leaveOut ∈ tg_gG := tg_mem (List.mem_of_getElem? (i := 585) (by decide +kernel)) (by decide +kernel)
theorem wm_X7_376 : Cond.methodLink RX7 376 yX1_leaveOut ∈ tg_gG := tg_mem (List.mem_of_getElem? (i := 583) (by decide +kernel)) (by decide +kernel)
theorem wc_X7_chooseOut : Cond.code yX7_chooseOut cX7_chooseOut 5 none ∈ tg_gG := tg_mem (List.mem_of_getElem? (i := 582) (by decide +kernel)) (by decide +kernel)
theorem wv_X7_chooseOut : Cond.instanceMethod yX7_chooseOut ∈ tg_gG := tg_mem (List.mem_of_getElem? (i := 581) (by decide +kernel)) (by decide +kernel)
theorem ws_X7_chooseOut : Cond.selects yX7_chooseOut.cls yX7_chooseOut yX7_chooseOut ∈ tg_gG := tg_mem (List.mem_of_getElem? (i := 13) (by decide +kernel)) (by decide +kernel)
theorem wm_X7_218 : Cond.methodLink RX7 218 yX7_chooseOut ∈ tg_gG := tg_mem (List.mem_of_getElem? (i := 579) (by decide +kernel)) (by decide +kernel)
theorem wc_X7_out : Cond.code yX7_out cX7_out 3 (some .int) ∈ tg_gG := tg_mem (List.mem_of_getElem? (i := 578) (by decide +kernel)) (by decide +kernel)
theorem wv_X7_out : Cond.instanceMethod yX7_out ∈ tg_gG := tg_mem (List.mem_of_getElem? (i := 576) (by decide +kernel)) (by decide +kernel)
theorem ws_X7_out : Cond.selects yX7_out.cls yX7_out yX7_out ∈ tg_gG := tg_mem (List.mem_of_getElem? (i := 577) (by decide +kernel)) (by decide +kernel)
theorem wf_X7_226 : Cond.fieldLink RX7 226 (TX3 4).1 (TX3 4).2.1 (TX3 4).2.2.1 ∈ tg_gG := tg_mem (List.mem_of_getElem? (i := 162) (by decide +kernel)) (by decide +kernel)
theorem wc_X7_winnerWithout : Cond.code yX7_winnerWithout cX7_winnerWithout 2 (some .int) ∈ tg_gG := tg_mem (List.mem_of_getElem? (i := 598) (by decide +kernel)) (by decide +kernel)
theorem wv_X7_winnerWithout : Cond.instanceMethod yX7_winnerWithout ∈ tg_gG := tg_mem (List.mem_of_getElem? (i := 597) (by decide +kernel)) (by decide +kernel)
theorem ws_X7_winnerWithout : Cond.selects yX7_winnerWithout.cls yX7_winnerWithout yX7_winnerWithout ∈ tg_gG := tg_mem (List.mem_of_getElem? (i := 15) (by decide +kernel)) (by decide +kernel)
theorem wm_X7_380 : Cond.methodLink RX7 380 yX7_winnerWithout ∈ tg_gG := tg_mem (List.mem_of_getElem? (i := 595) (by decide +kernel)) (by decide +kernel)
theorem wc_X7_chooseSpare : Cond.code yX7_chooseSpare cX7_chooseSpare 4 (some .int) ∈ tg_gG := tg_mem (List.mem_of_getElem? (i := 594) (by decide +kernel)) (by decide +kernel)
theorem wv_X7_chooseSpare : Cond.instanceMethod yX7_chooseSpare ∈ tg_gG := tg_mem (List.mem_of_getElem? (i := 593) (by decide +kernel)) (by decide +kernel)
theorem ws_X7_chooseSpare : Cond.selects yX7_chooseSpare.cls yX7_chooseSpare yX7_chooseSpare ∈ tg_gG := tg_mem (List.mem_of_getElem? (i := 14) (by decide +kernel)) (by decide +kernel)
theorem wm_X7_221 : Cond.methodLink RX7 221 yX7_chooseSpare ∈ tg_gG := tg_mem (List.mem_of_getElem? (i := 591) (by decide +kernel)) (by decide +kernel)
theorem wc_X7_spare : Cond.code yX7_spare cX7_spare 3 (some .int) ∈ tg_gG := tg_mem (List.mem_of_getElem? (i := 590) (by decide +kernel)) (by decide +kernel)
theorem wv_X7_spare : Cond.instanceMethod yX7_spare ∈ tg_gG := tg_mem (List.mem_of_getElem? (i := 588) (by decide +kernel)) (by decide +kernel)
theorem ws_X7_spare : Cond.selects yX7_spare.cls yX7_spare yX7_spare ∈ tg_gG := tg_mem (List.mem_of_getElem? (i := 589) (by decide +kernel)) (by decide +kernel)
theorem wf_X7_19 : Cond.fieldLink RX7 19 (TX7 1).1 (TX7 1).2.1 (TX7 1).2.2.1 ∈ tg_gG := tg_mem (List.mem_of_getElem? (i := 374) (by decide +kernel)) (by decide +kernel)
theorem wf_X7_224 : Cond.fieldLink RX7 224 (TX4 2).1 (TX4 2).2.1 (TX4 2).2.2.1 ∈ tg_gG := tg_mem (List.mem_of_getElem? (i := 117) (by decide +kernel)) (by decide +kernel)
theorem wm_X7_225 : Cond.methodLink RX7 225 yX4_append ∈ tg_gG := tg_mem (List.mem_of_getElem? (i := 603) (by decide +kernel)) (by decide +kernel)
theorem wc_X7_seen : Cond.code yX7_seen cX7_seen 3 (some .int) ∈ tg_gG := tg_mem (List.mem_of_getElem? (i := 602) (by decide +kernel)) (by decide +kernel)
theorem wv_X7_seen : Cond.instanceMethod yX7_seen ∈ tg_gG := tg_mem (List.mem_of_getElem? (i := 600) (by decide +kernel)) (by decide +kernel)
theorem ws_X7_seen : Cond.selects yX7_seen.cls yX7_seen yX7_seen ∈ tg_gG := tg_mem (List.mem_of_getElem? (i := 601) (by decide +kernel)) (by decide +kernel)
theorem wc_X7_forget : Cond.code yX7_forget cX7_forget 2 (some .int) ∈ tg_gG := tg_mem (List.mem_of_getElem? (i := 610) (by decide +kernel)) (by decide +kernel)
theorem wv_X7_forget : Cond.instanceMethod yX7_forget ∈ tg_gG := tg_mem (List.mem_of_getElem? (i := 608) (by decide +kernel)) (by decide +kernel)
theorem ws_X7_forget : Cond.selects yX7_forget.cls yX7_forget yX7_forget ∈ tg_gG := tg_mem (List.mem_of_getElem? (i := 609) (by decide +kernel)) (by decide +kernel)
theorem wm_X7_229 : Cond.methodLink RX7 229 yX4_fit ∈ tg_gG := tg_mem (List.mem_of_getElem? (i := 615) (by decide +kernel)) (by decide +kernel)
theorem wc_X7_never : Cond.code yX7_never cX7_never 3 (some .int) ∈ tg_gG := tg_mem (List.mem_of_getElem? (i := 614) (by decide +kernel)) (by decide +kernel)
theorem wv_X7_never : Cond.instanceMethod yX7_never ∈ tg_gG := tg_mem (List.mem_of_getElem? (i := 612) (by decide +kernel)) (by decide +kernel)
theorem ws_X7_never : Cond.selects yX7_never.cls yX7_never yX7_never ∈ tg_gG := tg_mem (List.mem_of_getElem? (i := 613) (by decide +kernel)) (by decide +kernel)
theorem wc_X7_sortsThatFit : Cond.code yX7_sortsThatFit cX7_sortsThatFit 4 (some .int) ∈ tg_gG := tg_mem (List.mem_of_getElem? (i := 630) (by decide +kernel)) (by decide +kernel)
theorem wv_X7_sortsThatFit : Cond.instanceMethod yX7_sortsThatFit ∈ tg_gG := tg_mem (List.mem_of_getElem? (i := 629) (by decide +kernel)) (by decide +kernel)
theorem ws_X7_sortsThatFit : Cond.selects yX7_sortsThatFit.cls yX7_sortsThatFit yX7_sortsThatFit ∈ tg_gG := tg_mem (List.mem_of_getElem? (i := 17) (by decide +kernel)) (by decide +kernel)
theorem wf_X7_61 : Cond.fieldLink RX7 61 (TX7 9).1 (TX7 9).2.1 (TX7 9).2.2.1 ∈ tg_gG := tg_mem (List.mem_of_getElem? (i := 382) (by decide +kernel)) (by decide +kernel)
theorem wc_X7_weightsThatFit : Cond.code yX7_weightsThatFit cX7_weightsThatFit 5 (some .int) ∈ tg_gG := tg_mem (List.mem_of_getElem? (i := 626) (by decide +kernel)) (by decide +kernel)
theorem wv_X7_weightsThatFit : Cond.instanceMethod yX7_weightsThatFit ∈ tg_gG := tg_mem (List.mem_of_getElem? (i := 625) (by decide +kernel)) (by decide +kernel)
theorem ws_X7_weightsThatFit : Cond.selects yX7_weightsThatFit.cls yX7_weightsThatFit yX7_weightsThatFit ∈ tg_gG := tg_mem (List.mem_of_getElem? (i := 16) (by decide +kernel)) (by decide +kernel)
theorem wm_X7_236 : Cond.methodLink RX7 236 yX7_sortsThatFit ∈ tg_gG := tg_mem (List.mem_of_getElem? (i := 627) (by decide +kernel)) (by decide +kernel)
theorem wm_X7_233 : Cond.methodLink RX7 233 yX7_weightsThatFit ∈ tg_gG := tg_mem (List.mem_of_getElem? (i := 623) (by decide +kernel)) (by decide +kernel)
theorem wc_X7_was : Cond.code yX7_was cX7_was 3 (some .int) ∈ tg_gG := tg_mem (List.mem_of_getElem? (i := 622) (by decide +kernel)) (by decide +kernel)
theorem wv_X7_was : Cond.instanceMethod yX7_was ∈ tg_gG := tg_mem (List.mem_of_getElem? (i := 620) (by decide +kernel)) (by decide +kernel)
theorem ws_X7_was : Cond.selects yX7_was.cls yX7_was yX7_was ∈ tg_gG := tg_mem (List.mem_of_getElem? (i := 621) (by decide +kernel)) (by decide +kernel)
theorem wc_X7_greatestLikeness : Cond.code yX7_greatestLikeness cX7_greatestLikeness 8 (some .int) ∈ tg_gG := tg_mem (List.mem_of_getElem? (i := 638) (by decide +kernel)) (by decide +kernel)
theorem wv_X7_greatestLikeness : Cond.instanceMethod yX7_greatestLikeness ∈ tg_gG := tg_mem (List.mem_of_getElem? (i := 637) (by decide +kernel)) (by decide +kernel)
theorem ws_X7_greatestLikeness : Cond.selects yX7_greatestLikeness.cls yX7_greatestLikeness yX7_greatestLikeness ∈ tg_gG := tg_mem (List.mem_of_getElem? (i := 18) (by decide +kernel)) (by decide +kernel)
theorem wm_X7_239 : Cond.methodLink RX7 239 yX7_greatestLikeness ∈ tg_gG := tg_mem (List.mem_of_getElem? (i := 635) (by decide +kernel)) (by decide +kernel)
theorem wc_X7_ask : Cond.code yX7_ask cX7_ask 7 (some .int) ∈ tg_gG := tg_mem (List.mem_of_getElem? (i := 634) (by decide +kernel)) (by decide +kernel)
theorem wv_X7_ask : Cond.instanceMethod yX7_ask ∈ tg_gG := tg_mem (List.mem_of_getElem? (i := 632) (by decide +kernel)) (by decide +kernel)
theorem ws_X7_ask : Cond.selects yX7_ask.cls yX7_ask yX7_ask ∈ tg_gG := tg_mem (List.mem_of_getElem? (i := 633) (by decide +kernel)) (by decide +kernel)
theorem wf_X7_65 : Cond.fieldLink RX7 65 (TX7 10).1 (TX7 10).2.1 (TX7 10).2.2.1 ∈ tg_gG := tg_mem (List.mem_of_getElem? (i := 383) (by decide +kernel)) (by decide +kernel)
theorem wc_X7_refreshWinners : Cond.code yX7_refreshWinners cX7_refreshWinners 2 none ∈ tg_gG := tg_mem (List.mem_of_getElem? (i := 647) (by decide +kernel)) (by decide +kernel)
theorem wv_X7_refreshWinners : Cond.instanceMethod yX7_refreshWinners ∈ tg_gG := tg_mem (List.mem_of_getElem? (i := 646) (by decide +kernel)) (by decide +kernel)
theorem ws_X7_refreshWinners : Cond.selects yX7_refreshWinners.cls yX7_refreshWinners yX7_refreshWinners ∈ tg_gG := tg_mem (List.mem_of_getElem? (i := 19) (by decide +kernel)) (by decide +kernel)
theorem wc_X7_waysToMiss : Cond.code yX7_waysToMiss cX7_waysToMiss 6 (some .long) ∈ tg_gG := tg_mem (List.mem_of_getElem? (i := 655) (by decide +kernel)) (by decide +kernel)
theorem wv_X7_waysToMiss : Cond.instanceMethod yX7_waysToMiss ∈ tg_gG := tg_mem (List.mem_of_getElem? (i := 654) (by decide +kernel)) (by decide +kernel)
theorem ws_X7_waysToMiss : Cond.selects yX7_waysToMiss.cls yX7_waysToMiss yX7_waysToMiss ∈ tg_gG := tg_mem (List.mem_of_getElem? (i := 21) (by decide +kernel)) (by decide +kernel)
theorem wm_X7_383 : Cond.methodLink RX7 383 yX7_waysToMiss ∈ tg_gG := tg_mem (List.mem_of_getElem? (i := 652) (by decide +kernel)) (by decide +kernel)
theorem wc_X7_waysToWin : Cond.code yX7_waysToWin cX7_waysToWin 6 (some .long) ∈ tg_gG := tg_mem (List.mem_of_getElem? (i := 651) (by decide +kernel)) (by decide +kernel)
theorem wv_X7_waysToWin : Cond.instanceMethod yX7_waysToWin ∈ tg_gG := tg_mem (List.mem_of_getElem? (i := 650) (by decide +kernel)) (by decide +kernel)
theorem ws_X7_waysToWin : Cond.selects yX7_waysToWin.cls yX7_waysToWin yX7_waysToWin ∈ tg_gG := tg_mem (List.mem_of_getElem? (i := 20) (by decide +kernel)) (by decide +kernel)
theorem wk_X7_244 : Cond.constantLong RX7 244 (-9223372036854775806) ∈ tg_gG := tg_mem (List.mem_of_getElem? (i := 643) (by decide +kernel)) (by decide +kernel)
theorem wm_X7_246 : Cond.methodLink RX7 246 yX7_refreshWinners ∈ tg_gG := tg_mem (List.mem_of_getElem? (i := 644) (by decide +kernel)) (by decide +kernel)
theorem wm_X7_249 : Cond.methodLink RX7 249 yX7_waysToWin ∈ tg_gG := tg_mem (List.mem_of_getElem? (i := 648) (by decide +kernel)) (by decide +kernel)
theorem wk_X7_253 : Cond.constantLong RX7 253 (2) ∈ tg_gG := tg_mem (List.mem_of_getElem? (i := 656) (by decide +kernel)) (by decide +kernel)
theorem wc_X7_chance : Cond.code yX7_chance cX7_chance 10 (some .long) ∈ tg_gG := tg_mem (List.mem_of_getElem? (i := 642) (by decide +kernel)) (by decide +kernel)
theorem wv_X7_chance : Cond.instanceMethod yX7_chance ∈ tg_gG := tg_mem (List.mem_of_getElem? (i := 640) (by decide +kernel)) (by decide +kernel)
theorem ws_X7_chance : Cond.selects yX7_chance.cls yX7_chance yX7_chance ∈ tg_gG := tg_mem (List.mem_of_getElem? (i := 641) (by decide +kernel)) (by decide +kernel)
theorem wk_X7_255 : Cond.constant RX7 255 (1103515245) ∈ tg_gG := tg_mem (List.mem_of_getElem? (i := 661) (by decide +kernel)) (by decide +kernel)
theorem wc_X7_years : Cond.code yX7_years cX7_years 6 (some .int) ∈ tg_gG := tg_mem (List.mem_of_getElem? (i := 660) (by decide +kernel)) (by decide +kernel)
theorem wv_X7_years : Cond.instanceMethod yX7_years ∈ tg_gG := tg_mem (List.mem_of_getElem? (i := 658) (by decide +kernel)) (by decide +kernel)
theorem ws_X7_years : Cond.selects yX7_years.cls yX7_years yX7_years ∈ tg_gG := tg_mem (List.mem_of_getElem? (i := 659) (by decide +kernel)) (by decide +kernel)
theorem wm_X7_256 : Cond.methodLink RX7 256 yX5_renew ∈ tg_gG := tg_mem (List.mem_of_getElem? (i := 666) (by decide +kernel)) (by decide +kernel)
theorem wc_X7_sheet : Cond.code yX7_sheet cX7_sheet 4 (some .int) ∈ tg_gG := tg_mem (List.mem_of_getElem? (i := 665) (by decide +kernel)) (by decide +kernel)
theorem wv_X7_sheet : Cond.instanceMethod yX7_sheet ∈ tg_gG := tg_mem (List.mem_of_getElem? (i := 663) (by decide +kernel)) (by decide +kernel)
theorem ws_X7_sheet : Cond.selects yX7_sheet.cls yX7_sheet yX7_sheet ∈ tg_gG := tg_mem (List.mem_of_getElem? (i := 664) (by decide +kernel)) (by decide +kernel)
theorem wm_X7_259 : Cond.methodLink RX7 259 yX5_drop ∈ tg_gG := tg_mem (List.mem_of_getElem? (i := 674) (by decide +kernel)) (by decide +kernel)
theorem wc_X7_lose : Cond.code yX7_lose cX7_lose 2 (some .int) ∈ tg_gG := tg_mem (List.mem_of_getElem? (i := 673) (by decide +kernel)) (by decide +kernel)
theorem wv_X7_lose : Cond.instanceMethod yX7_lose ∈ tg_gG := tg_mem (List.mem_of_getElem? (i := 671) (by decide +kernel)) (by decide +kernel)
theorem ws_X7_lose : Cond.selects yX7_lose.cls yX7_lose yX7_lose ∈ tg_gG := tg_mem (List.mem_of_getElem? (i := 672) (by decide +kernel)) (by decide +kernel)
theorem wm_X7_262 : Cond.methodLink RX7 262 yX5_whatIsWrong ∈ tg_gG := tg_mem (List.mem_of_getElem? (i := 682) (by decide +kernel)) (by decide +kernel)
theorem wm_X7_265 : Cond.methodLink RX7 265 yX5_store ∈ tg_gG := tg_mem (List.mem_of_getElem? (i := 688) (by decide +kernel)) (by decide +kernel)
theorem wc_X7_put : Cond.code yX7_put cX7_put 6 (some .int) ∈ tg_gG := tg_mem (List.mem_of_getElem? (i := 681) (by decide +kernel)) (by decide +kernel)
theorem wv_X7_put : Cond.instanceMethod yX7_put ∈ tg_gG := tg_mem (List.mem_of_getElem? (i := 679) (by decide +kernel)) (by decide +kernel)
theorem ws_X7_put : Cond.selects yX7_put.cls yX7_put yX7_put ∈ tg_gG := tg_mem (List.mem_of_getElem? (i := 680) (by decide +kernel)) (by decide +kernel)
theorem wk_X7_270 : Cond.constant RX7 270 (-2147483648) ∈ tg_gG := tg_mem (List.mem_of_getElem? (i := 696) (by decide +kernel)) (by decide +kernel)
theorem wc_X7_get : Cond.code yX7_get cX7_get 5 (some .int) ∈ tg_gG := tg_mem (List.mem_of_getElem? (i := 695) (by decide +kernel)) (by decide +kernel)
theorem wv_X7_get : Cond.instanceMethod yX7_get ∈ tg_gG := tg_mem (List.mem_of_getElem? (i := 693) (by decide +kernel)) (by decide +kernel)
theorem ws_X7_get : Cond.selects yX7_get.cls yX7_get yX7_get ∈ tg_gG := tg_mem (List.mem_of_getElem? (i := 694) (by decide +kernel)) (by decide +kernel)
theorem wm_X7_271 : Cond.methodLink RX7 271 yX5_areAlike ∈ tg_gG := tg_mem (List.mem_of_getElem? (i := 701) (by decide +kernel)) (by decide +kernel)
theorem wm_X7_274 : Cond.methodLink RX7 274 yX5_holds ∈ tg_gG := tg_mem (List.mem_of_getElem? (i := 705) (by decide +kernel)) (by decide +kernel)
theorem wm_X7_277 : Cond.methodLink RX7 277 yX5_move ∈ tg_gG := tg_mem (List.mem_of_getElem? (i := 709) (by decide +kernel)) (by decide +kernel)
theorem wc_X7_copy : Cond.code yX7_copy cX7_copy 6 (some .int) ∈ tg_gG := tg_mem (List.mem_of_getElem? (i := 700) (by decide +kernel)) (by decide +kernel)
theorem wv_X7_copy : Cond.instanceMethod yX7_copy ∈ tg_gG := tg_mem (List.mem_of_getElem? (i := 698) (by decide +kernel)) (by decide +kernel)
theorem ws_X7_copy : Cond.selects yX7_copy.cls yX7_copy yX7_copy ∈ tg_gG := tg_mem (List.mem_of_getElem? (i := 699) (by decide +kernel)) (by decide +kernel)
theorem wc_X7_write : Cond.code yX7_write cX7_write 4 (some .int) ∈ tg_gG := tg_mem (List.mem_of_getElem? (i := 717) (by decide +kernel)) (by decide +kernel)
theorem wv_X7_write : Cond.instanceMethod yX7_write ∈ tg_gG := tg_mem (List.mem_of_getElem? (i := 715) (by decide +kernel)) (by decide +kernel)
theorem ws_X7_write : Cond.selects yX7_write.cls yX7_write yX7_write ∈ tg_gG := tg_mem (List.mem_of_getElem? (i := 716) (by decide +kernel)) (by decide +kernel)
theorem wm_X7_283 : Cond.methodLink RX7 283 yX6_soundLength ∈ tg_gG := tg_mem (List.mem_of_getElem? (i := 722) (by decide +kernel)) (by decide +kernel)
theorem wm_X7_286 : Cond.methodLink RX7 286 yX6_lengthOfAll ∈ tg_gG := tg_mem (List.mem_of_getElem? (i := 723) (by decide +kernel)) (by decide +kernel)
theorem wc_X7_count : Cond.code yX7_count cX7_count 2 (some .int) ∈ tg_gG := tg_mem (List.mem_of_getElem? (i := 721) (by decide +kernel)) (by decide +kernel)
theorem wv_X7_count : Cond.instanceMethod yX7_count ∈ tg_gG := tg_mem (List.mem_of_getElem? (i := 719) (by decide +kernel)) (by decide +kernel)
theorem ws_X7_count : Cond.selects yX7_count.cls yX7_count yX7_count ∈ tg_gG := tg_mem (List.mem_of_getElem? (i := 720) (by decide +kernel)) (by decide +kernel)
theorem wk_X7_291 : Cond.constantLong RX7 291 (31) ∈ tg_gG := tg_mem (List.mem_of_getElem? (i := 732) (by decide +kernel)) (by decide +kernel)
theorem wm_X7_333 : Cond.methodLink RX7 333 yX7_call ∈ tg_gG := tg_mem (List.mem_of_getElem? (i := 739) (by decide +kernel)) (by decide +kernel)
theorem wm_X7_336 : Cond.methodLink RX7 336 yX7_rope ∈ tg_gG := tg_mem (List.mem_of_getElem? (i := 740) (by decide +kernel)) (by decide +kernel)
theorem wc_X7_withBeat : Cond.code yX7_withBeat cX7_withBeat 7 (some .long) ∈ tg_gG := tg_mem (List.mem_of_getElem? (i := 738) (by decide +kernel)) (by decide +kernel)
theorem wv_X7_withBeat : Cond.instanceMethod yX7_withBeat ∈ tg_gG := tg_mem (List.mem_of_getElem? (i := 737) (by decide +kernel)) (by decide +kernel)
theorem ws_X7_withBeat : Cond.selects yX7_withBeat.cls yX7_withBeat yX7_withBeat ∈ tg_gG := tg_mem (List.mem_of_getElem? (i := 22) (by decide +kernel)) (by decide +kernel)
theorem wf_X7_341 : Cond.fieldLink RX7 341 "TugOfWar" "DIGEST_BEATS" "[I" ∈ tg_gG := tg_mem (List.mem_of_getElem? (i := 746) (by decide +kernel)) (by decide +kernel)
theorem wm_X7_338 : Cond.methodLink RX7 338 yX7_puller ∈ tg_gG := tg_mem (List.mem_of_getElem? (i := 745) (by decide +kernel)) (by decide +kernel)
theorem wm_X7_347 : Cond.methodLink RX7 347 yX7_done ∈ tg_gG := tg_mem (List.mem_of_getElem? (i := 749) (by decide +kernel)) (by decide +kernel)
theorem wm_X7_350 : Cond.methodLink RX7 350 yX7_was ∈ tg_gG := tg_mem (List.mem_of_getElem? (i := 750) (by decide +kernel)) (by decide +kernel)
theorem wm_X7_353 : Cond.methodLink RX7 353 yX7_ask ∈ tg_gG := tg_mem (List.mem_of_getElem? (i := 751) (by decide +kernel)) (by decide +kernel)
theorem wm_X7_344 : Cond.methodLink RX7 344 yX7_at ∈ tg_gG := tg_mem (List.mem_of_getElem? (i := 748) (by decide +kernel)) (by decide +kernel)
theorem wc_X7_withPuller : Cond.code yX7_withPuller cX7_withPuller 10 (some .long) ∈ tg_gG := tg_mem (List.mem_of_getElem? (i := 744) (by decide +kernel)) (by decide +kernel)
theorem wv_X7_withPuller : Cond.instanceMethod yX7_withPuller ∈ tg_gG := tg_mem (List.mem_of_getElem? (i := 743) (by decide +kernel)) (by decide +kernel)
theorem ws_X7_withPuller : Cond.selects yX7_withPuller.cls yX7_withPuller yX7_withPuller ∈ tg_gG := tg_mem (List.mem_of_getElem? (i := 23) (by decide +kernel)) (by decide +kernel)
theorem wm_X7_356 : Cond.methodLink RX7 356 yX7_better ∈ tg_gG := tg_mem (List.mem_of_getElem? (i := 756) (by decide +kernel)) (by decide +kernel)
theorem wm_X7_362 : Cond.methodLink RX7 362 yX7_out ∈ tg_gG := tg_mem (List.mem_of_getElem? (i := 758) (by decide +kernel)) (by decide +kernel)
theorem wm_X7_365 : Cond.methodLink RX7 365 yX7_chance ∈ tg_gG := tg_mem (List.mem_of_getElem? (i := 759) (by decide +kernel)) (by decide +kernel)
theorem wm_X7_359 : Cond.methodLink RX7 359 yX7_swap ∈ tg_gG := tg_mem (List.mem_of_getElem? (i := 757) (by decide +kernel)) (by decide +kernel)
theorem wc_X7_withTeam : Cond.code yX7_withTeam cX7_withTeam 7 (some .long) ∈ tg_gG := tg_mem (List.mem_of_getElem? (i := 755) (by decide +kernel)) (by decide +kernel)
theorem wv_X7_withTeam : Cond.instanceMethod yX7_withTeam ∈ tg_gG := tg_mem (List.mem_of_getElem? (i := 754) (by decide +kernel)) (by decide +kernel)
theorem ws_X7_withTeam : Cond.selects yX7_withTeam.cls yX7_withTeam yX7_withTeam ∈ tg_gG := tg_mem (List.mem_of_getElem? (i := 24) (by decide +kernel)) (by decide +kernel)
theorem wk_X7_289 : Cond.constantLong RX7 289 (17) ∈ tg_gG := tg_mem (List.mem_of_getElem? (i := 731) (by decide +kernel)) (by decide +kernel)
theorem wm_X7_293 : Cond.methodLink RX7 293 yX7_count ∈ tg_gG := tg_mem (List.mem_of_getElem? (i := 733) (by decide +kernel)) (by decide +kernel)
theorem wm_X7_296 : Cond.methodLink RX7 296 yX7_fault ∈ tg_gG := tg_mem (List.mem_of_getElem? (i := 734) (by decide +kernel)) (by decide +kernel)
theorem wm_X7_299 : Cond.methodLink RX7 299 yX7_withBeat ∈ tg_gG := tg_mem (List.mem_of_getElem? (i := 735) (by decide +kernel)) (by decide +kernel)
theorem wm_X7_303 : Cond.methodLink RX7 303 yX7_withPuller ∈ tg_gG := tg_mem (List.mem_of_getElem? (i := 741) (by decide +kernel)) (by decide +kernel)
theorem wm_X7_309 : Cond.methodLink RX7 309 yX7_won ∈ tg_gG := tg_mem (List.mem_of_getElem? (i := 760) (by decide +kernel)) (by decide +kernel)
theorem wm_X7_312 : Cond.methodLink RX7 312 yX7_furthest ∈ tg_gG := tg_mem (List.mem_of_getElem? (i := 761) (by decide +kernel)) (by decide +kernel)
theorem wm_X7_315 : Cond.methodLink RX7 315 yX7_spent ∈ tg_gG := tg_mem (List.mem_of_getElem? (i := 762) (by decide +kernel)) (by decide +kernel)
theorem wm_X7_318 : Cond.methodLink RX7 318 yX7_best ∈ tg_gG := tg_mem (List.mem_of_getElem? (i := 763) (by decide +kernel)) (by decide +kernel)
theorem wm_X7_321 : Cond.methodLink RX7 321 yX7_level ∈ tg_gG := tg_mem (List.mem_of_getElem? (i := 764) (by decide +kernel)) (by decide +kernel)
theorem wm_X7_324 : Cond.methodLink RX7 324 yX7_spare ∈ tg_gG := tg_mem (List.mem_of_getElem? (i := 765) (by decide +kernel)) (by decide +kernel)
theorem wm_X7_327 : Cond.methodLink RX7 327 yX7_never ∈ tg_gG := tg_mem (List.mem_of_getElem? (i := 766) (by decide +kernel)) (by decide +kernel)
theorem wm_X7_330 : Cond.methodLink RX7 330 yX7_years ∈ tg_gG := tg_mem (List.mem_of_getElem? (i := 767) (by decide +kernel)) (by decide +kernel)
theorem wm_X7_306 : Cond.methodLink RX7 306 yX7_withTeam ∈ tg_gG := tg_mem (List.mem_of_getElem? (i := 752) (by decide +kernel)) (by decide +kernel)
theorem wc_X7_digest : Cond.code yX7_digest cX7_digest 4 (some .long) ∈ tg_gG := tg_mem (List.mem_of_getElem? (i := 730) (by decide +kernel)) (by decide +kernel)
theorem wv_X7_digest : Cond.instanceMethod yX7_digest ∈ tg_gG := tg_mem (List.mem_of_getElem? (i := 728) (by decide +kernel)) (by decide +kernel)
theorem ws_X7_digest : Cond.selects yX7_digest.cls yX7_digest yX7_digest ∈ tg_gG := tg_mem (List.mem_of_getElem? (i := 729) (by decide +kernel)) (by decide +kernel)
theorem wc_X8_in : Cond.code yX8_in cX8_in 3 (some .boolean) ∈ tg_gG := tg_mem (List.mem_of_getElem? (i := 925) (by decide +kernel)) (by decide +kernel)
theorem wi_X8 : Cond.initialized RX8 ∈ tg_gG := tg_mem (List.mem_of_getElem? (i := 85) (by decide +kernel)) (by decide +kernel)
theorem wt_X8_in : Cond.static yX8_in ∈ tg_gG := tg_mem (List.mem_of_getElem? (i := 924) (by decide +kernel)) (by decide +kernel)
theorem wc_X8_isIn : Cond.code yX8_isIn cX8_isIn 2 (some .boolean) ∈ tg_gG := tg_mem (List.mem_of_getElem? (i := 1056) (by decide +kernel)) (by decide +kernel)
theorem wt_X8_isIn : Cond.static yX8_isIn ∈ tg_gG := tg_mem (List.mem_of_getElem? (i := 1055) (by decide +kernel)) (by decide +kernel)
theorem wk_X8_107 : Cond.constantLong RX8 107 (-9223372036854775808) ∈ tg_gG := tg_mem (List.mem_of_getElem? (i := 1227) (by decide +kernel)) (by decide +kernel)
theorem wc_X8_no : Cond.code yX8_no cX8_no 1 (some .long) ∈ tg_gG := tg_mem (List.mem_of_getElem? (i := 1226) (by decide +kernel)) (by decide +kernel)
theorem wt_X8_no : Cond.static yX8_no ∈ tg_gG := tg_mem (List.mem_of_getElem? (i := 1225) (by decide +kernel)) (by decide +kernel)
theorem wc_X8_lowest : Cond.code yX8_lowest cX8_lowest 11 (some .long) ∈ tg_gG := tg_mem (List.mem_of_getElem? (i := 1223) (by decide +kernel)) (by decide +kernel)
theorem wt_X8_lowest : Cond.static yX8_lowest ∈ tg_gG := tg_mem (List.mem_of_getElem? (i := 1222) (by decide +kernel)) (by decide +kernel)
theorem wm_X8_109 : Cond.methodLink RX8 109 yX8_in ∈ tg_gG := tg_mem (List.mem_of_getElem? (i := 923) (by decide +kernel)) (by decide +kernel)
theorem wc_X8_isText : Cond.code yX8_isText cX8_isText 1 (some .boolean) ∈ tg_gG := tg_mem (List.mem_of_getElem? (i := 922) (by decide +kernel)) (by decide +kernel)
theorem wt_X8_isText : Cond.static yX8_isText ∈ tg_gG := tg_mem (List.mem_of_getElem? (i := 921) (by decide +kernel)) (by decide +kernel)
theorem wc_X8_isBeat : Cond.code yX8_isBeat cX8_isBeat 1 (some .boolean) ∈ tg_gG := tg_mem (List.mem_of_getElem? (i := 993) (by decide +kernel)) (by decide +kernel)
theorem wt_X8_isBeat : Cond.static yX8_isBeat ∈ tg_gG := tg_mem (List.mem_of_getElem? (i := 992) (by decide +kernel)) (by decide +kernel)
theorem wc_X8_isTwo : Cond.code yX8_isTwo cX8_isTwo 1 (some .boolean) ∈ tg_gG := tg_mem (List.mem_of_getElem? (i := 990) (by decide +kernel)) (by decide +kernel)
theorem wt_X8_isTwo : Cond.static yX8_isTwo ∈ tg_gG := tg_mem (List.mem_of_getElem? (i := 989) (by decide +kernel)) (by decide +kernel)
theorem wc_X8_isThree : Cond.code yX8_isThree cX8_isThree 1 (some .boolean) ∈ tg_gG := tg_mem (List.mem_of_getElem? (i := 979) (by decide +kernel)) (by decide +kernel)
theorem wt_X8_isThree : Cond.static yX8_isThree ∈ tg_gG := tg_mem (List.mem_of_getElem? (i := 978) (by decide +kernel)) (by decide +kernel)
theorem wm_X8_113 : Cond.methodLink RX8 113 yX8_isText ∈ tg_gG := tg_mem (List.mem_of_getElem? (i := 920) (by decide +kernel)) (by decide +kernel)
theorem wf_X8_7 : Cond.fieldLink RX8 7 (TX8 0).1 (TX8 0).2.1 (TX8 0).2.2.1 ∈ tg_gG := tg_mem (List.mem_of_getElem? (i := 774) (by decide +kernel)) (by decide +kernel)
theorem wf_X8_13 : Cond.fieldLink RX8 13 (TX8 1).1 (TX8 1).2.1 (TX8 1).2.2.1 ∈ tg_gG := tg_mem (List.mem_of_getElem? (i := 775) (by decide +kernel)) (by decide +kernel)
theorem wc_X8_type : Cond.code yX8_type cX8_type 3 (some .int) ∈ tg_gG := tg_mem (List.mem_of_getElem? (i := 919) (by decide +kernel)) (by decide +kernel)
theorem wv_X8_type : Cond.instanceMethod yX8_type ∈ tg_gG := tg_mem (List.mem_of_getElem? (i := 917) (by decide +kernel)) (by decide +kernel)
theorem ws_X8_type : Cond.selects yX8_type.cls yX8_type yX8_type ∈ tg_gG := tg_mem (List.mem_of_getElem? (i := 918) (by decide +kernel)) (by decide +kernel)
theorem wc_X8_wipe : Cond.code yX8_wipe cX8_wipe 3 (some .int) ∈ tg_gG := tg_mem (List.mem_of_getElem? (i := 929) (by decide +kernel)) (by decide +kernel)
theorem wv_X8_wipe : Cond.instanceMethod yX8_wipe ∈ tg_gG := tg_mem (List.mem_of_getElem? (i := 927) (by decide +kernel)) (by decide +kernel)
theorem ws_X8_wipe : Cond.selects yX8_wipe.cls yX8_wipe yX8_wipe ∈ tg_gG := tg_mem (List.mem_of_getElem? (i := 928) (by decide +kernel)) (by decide +kernel)
theorem wc_X8_undo : Cond.code yX8_undo cX8_undo 2 (some .int) ∈ tg_gG := tg_mem (List.mem_of_getElem? (i := 933) (by decide +kernel)) (by decide +kernel)
theorem wv_X8_undo : Cond.instanceMethod yX8_undo ∈ tg_gG := tg_mem (List.mem_of_getElem? (i := 931) (by decide +kernel)) (by decide +kernel)
theorem ws_X8_undo : Cond.selects yX8_undo.cls yX8_undo yX8_undo ∈ tg_gG := tg_mem (List.mem_of_getElem? (i := 932) (by decide +kernel)) (by decide +kernel)
theorem wc_X8_byteAt : Cond.code yX8_byteAt cX8_byteAt 3 (some .int) ∈ tg_gG := tg_mem (List.mem_of_getElem? (i := 953) (by decide +kernel)) (by decide +kernel)
theorem wv_X8_byteAt : Cond.instanceMethod yX8_byteAt ∈ tg_gG := tg_mem (List.mem_of_getElem? (i := 952) (by decide +kernel)) (by decide +kernel)
theorem ws_X8_byteAt : Cond.selects yX8_byteAt.cls yX8_byteAt yX8_byteAt ∈ tg_gG := tg_mem (List.mem_of_getElem? (i := 28) (by decide +kernel)) (by decide +kernel)
theorem wm_X8_117 : Cond.methodLink RX8 117 yX8_byteAt ∈ tg_gG := tg_mem (List.mem_of_getElem? (i := 950) (by decide +kernel)) (by decide +kernel)
theorem wf_X8_19 : Cond.fieldLink RX8 19 (TX8 3).1 (TX8 3).2.1 (TX8 3).2.2.1 ∈ tg_gG := tg_mem (List.mem_of_getElem? (i := 777) (by decide +kernel)) (by decide +kernel)
theorem wf_X8_22 : Cond.fieldLink RX8 22 (TX8 4).1 (TX8 4).2.1 (TX8 4).2.2.1 ∈ tg_gG := tg_mem (List.mem_of_getElem? (i := 778) (by decide +kernel)) (by decide +kernel)
theorem wf_X8_25 : Cond.fieldLink RX8 25 (TX8 5).1 (TX8 5).2.1 (TX8 5).2.2.1 ∈ tg_gG := tg_mem (List.mem_of_getElem? (i := 779) (by decide +kernel)) (by decide +kernel)
theorem wc_X8_readsPuller : Cond.code yX8_readsPuller cX8_readsPuller 8 (some .int) ∈ tg_gG := tg_mem (List.mem_of_getElem? (i := 949) (by decide +kernel)) (by decide +kernel)
theorem wv_X8_readsPuller : Cond.instanceMethod yX8_readsPuller ∈ tg_gG := tg_mem (List.mem_of_getElem? (i := 948) (by decide +kernel)) (by decide +kernel)
theorem ws_X8_readsPuller : Cond.selects yX8_readsPuller.cls yX8_readsPuller yX8_readsPuller ∈ tg_gG := tg_mem (List.mem_of_getElem? (i := 27) (by decide +kernel)) (by decide +kernel)
theorem wf_X8_16 : Cond.fieldLink RX8 16 (TX8 2).1 (TX8 2).2.1 (TX8 2).2.2.1 ∈ tg_gG := tg_mem (List.mem_of_getElem? (i := 776) (by decide +kernel)) (by decide +kernel)
theorem wm_X8_121 : Cond.methodLink RX8 121 yX8_readsPuller ∈ tg_gG := tg_mem (List.mem_of_getElem? (i := 946) (by decide +kernel)) (by decide +kernel)
theorem wc_X8_readsTeam : Cond.code yX8_readsTeam cX8_readsTeam 5 (some .int) ∈ tg_gG := tg_mem (List.mem_of_getElem? (i := 945) (by decide +kernel)) (by decide +kernel)
theorem wv_X8_readsTeam : Cond.instanceMethod yX8_readsTeam ∈ tg_gG := tg_mem (List.mem_of_getElem? (i := 944) (by decide +kernel)) (by decide +kernel)
theorem ws_X8_readsTeam : Cond.selects yX8_readsTeam.cls yX8_readsTeam yX8_readsTeam ∈ tg_gG := tg_mem (List.mem_of_getElem? (i := 26) (by decide +kernel)) (by decide +kernel)
theorem wc_X8_callBy : Cond.code yX8_callBy cX8_callBy 1 (some .int) ∈ tg_gG := tg_mem (List.mem_of_getElem? (i := 960) (by decide +kernel)) (by decide +kernel)
theorem wt_X8_callBy : Cond.static yX8_callBy ∈ tg_gG := tg_mem (List.mem_of_getElem? (i := 959) (by decide +kernel)) (by decide +kernel)
theorem wf_X8_28 : Cond.fieldLink RX8 28 (TX8 6).1 (TX8 6).2.1 (TX8 6).2.2.1 ∈ tg_gG := tg_mem (List.mem_of_getElem? (i := 780) (by decide +kernel)) (by decide +kernel)
theorem wf_X8_31 : Cond.fieldLink RX8 31 (TX8 7).1 (TX8 7).2.1 (TX8 7).2.2.1 ∈ tg_gG := tg_mem (List.mem_of_getElem? (i := 781) (by decide +kernel)) (by decide +kernel)
theorem wm_X8_125 : Cond.methodLink RX8 125 yX8_callBy ∈ tg_gG := tg_mem (List.mem_of_getElem? (i := 958) (by decide +kernel)) (by decide +kernel)
theorem wc_X8_readsCalls : Cond.code yX8_readsCalls cX8_readsCalls 4 (some .int) ∈ tg_gG := tg_mem (List.mem_of_getElem? (i := 957) (by decide +kernel)) (by decide +kernel)
theorem wv_X8_readsCalls : Cond.instanceMethod yX8_readsCalls ∈ tg_gG := tg_mem (List.mem_of_getElem? (i := 956) (by decide +kernel)) (by decide +kernel)
theorem ws_X8_readsCalls : Cond.selects yX8_readsCalls.cls yX8_readsCalls yX8_readsCalls ∈ tg_gG := tg_mem (List.mem_of_getElem? (i := 29) (by decide +kernel)) (by decide +kernel)
theorem wm_X8_129 : Cond.methodLink RX8 129 yX8_readsTeam ∈ tg_gG := tg_mem (List.mem_of_getElem? (i := 942) (by decide +kernel)) (by decide +kernel)
theorem wm_X8_132 : Cond.methodLink RX8 132 yX8_readsCalls ∈ tg_gG := tg_mem (List.mem_of_getElem? (i := 954) (by decide +kernel)) (by decide +kernel)
theorem wc_X8_faultOf : Cond.code yX8_faultOf cX8_faultOf 6 (some .int) ∈ tg_gG := tg_mem (List.mem_of_getElem? (i := 941) (by decide +kernel)) (by decide +kernel)
theorem wv_X8_faultOf : Cond.instanceMethod yX8_faultOf ∈ tg_gG := tg_mem (List.mem_of_getElem? (i := 940) (by decide +kernel)) (by decide +kernel)
theorem ws_X8_faultOf : Cond.selects yX8_faultOf.cls yX8_faultOf yX8_faultOf ∈ tg_gG := tg_mem (List.mem_of_getElem? (i := 25) (by decide +kernel)) (by decide +kernel)
theorem wm_X8_135 : Cond.methodLink RX8 135 yX8_faultOf ∈ tg_gG := tg_mem (List.mem_of_getElem? (i := 938) (by decide +kernel)) (by decide +kernel)
theorem wc_X8_reads : Cond.code yX8_reads cX8_reads 2 none ∈ tg_gG := tg_mem (List.mem_of_getElem? (i := 972) (by decide +kernel)) (by decide +kernel)
theorem wv_X8_reads : Cond.instanceMethod yX8_reads ∈ tg_gG := tg_mem (List.mem_of_getElem? (i := 971) (by decide +kernel)) (by decide +kernel)
theorem ws_X8_reads : Cond.selects yX8_reads.cls yX8_reads yX8_reads ∈ tg_gG := tg_mem (List.mem_of_getElem? (i := 31) (by decide +kernel)) (by decide +kernel)
theorem wc_X8_fault : Cond.code yX8_fault cX8_fault 2 (some .int) ∈ tg_gG := tg_mem (List.mem_of_getElem? (i := 937) (by decide +kernel)) (by decide +kernel)
theorem wv_X8_fault : Cond.instanceMethod yX8_fault ∈ tg_gG := tg_mem (List.mem_of_getElem? (i := 935) (by decide +kernel)) (by decide +kernel)
theorem ws_X8_fault : Cond.selects yX8_fault.cls yX8_fault yX8_fault ∈ tg_gG := tg_mem (List.mem_of_getElem? (i := 936) (by decide +kernel)) (by decide +kernel)
theorem wc_X8_isThereOne : Cond.code yX8_isThereOne cX8_isThereOne 2 (some .boolean) ∈ tg_gG := tg_mem (List.mem_of_getElem? (i := 976) (by decide +kernel)) (by decide +kernel)
theorem wv_X8_isThereOne : Cond.instanceMethod yX8_isThereOne ∈ tg_gG := tg_mem (List.mem_of_getElem? (i := 975) (by decide +kernel)) (by decide +kernel)
theorem ws_X8_isThereOne : Cond.selects yX8_isThereOne.cls yX8_isThereOne yX8_isThereOne ∈ tg_gG := tg_mem (List.mem_of_getElem? (i := 32) (by decide +kernel)) (by decide +kernel)
theorem wm_X8_138 : Cond.methodLink RX8 138 yX8_reads ∈ tg_gG := tg_mem (List.mem_of_getElem? (i := 969) (by decide +kernel)) (by decide +kernel)
theorem wm_X8_141 : Cond.methodLink RX8 141 yX8_isThereOne ∈ tg_gG := tg_mem (List.mem_of_getElem? (i := 973) (by decide +kernel)) (by decide +kernel)
theorem wc_X8_isPuller : Cond.code yX8_isPuller cX8_isPuller 2 (some .boolean) ∈ tg_gG := tg_mem (List.mem_of_getElem? (i := 968) (by decide +kernel)) (by decide +kernel)
theorem wv_X8_isPuller : Cond.instanceMethod yX8_isPuller ∈ tg_gG := tg_mem (List.mem_of_getElem? (i := 967) (by decide +kernel)) (by decide +kernel)
theorem ws_X8_isPuller : Cond.selects yX8_isPuller.cls yX8_isPuller yX8_isPuller ∈ tg_gG := tg_mem (List.mem_of_getElem? (i := 30) (by decide +kernel)) (by decide +kernel)
theorem wc_X8_pullerOf : Cond.code yX8_pullerOf cX8_pullerOf 3 (some .int) ∈ tg_gG := tg_mem (List.mem_of_getElem? (i := 983) (by decide +kernel)) (by decide +kernel)
theorem wv_X8_pullerOf : Cond.instanceMethod yX8_pullerOf ∈ tg_gG := tg_mem (List.mem_of_getElem? (i := 982) (by decide +kernel)) (by decide +kernel)
theorem ws_X8_pullerOf : Cond.selects yX8_pullerOf.cls yX8_pullerOf yX8_pullerOf ∈ tg_gG := tg_mem (List.mem_of_getElem? (i := 33) (by decide +kernel)) (by decide +kernel)
theorem wm_X8_144 : Cond.methodLink RX8 144 yX8_isPuller ∈ tg_gG := tg_mem (List.mem_of_getElem? (i := 965) (by decide +kernel)) (by decide +kernel)
theorem wm_X8_147 : Cond.methodLink RX8 147 yX8_isThree ∈ tg_gG := tg_mem (List.mem_of_getElem? (i := 977) (by decide +kernel)) (by decide +kernel)
theorem wm_X8_150 : Cond.methodLink RX8 150 yX8_pullerOf ∈ tg_gG := tg_mem (List.mem_of_getElem? (i := 980) (by decide +kernel)) (by decide +kernel)
theorem wc_X8_puller : Cond.code yX8_puller cX8_puller 3 (some .int) ∈ tg_gG := tg_mem (List.mem_of_getElem? (i := 964) (by decide +kernel)) (by decide +kernel)
theorem wv_X8_puller : Cond.instanceMethod yX8_puller ∈ tg_gG := tg_mem (List.mem_of_getElem? (i := 962) (by decide +kernel)) (by decide +kernel)
theorem ws_X8_puller : Cond.selects yX8_puller.cls yX8_puller yX8_puller ∈ tg_gG := tg_mem (List.mem_of_getElem? (i := 963) (by decide +kernel)) (by decide +kernel)
theorem wc_X8_callOf : Cond.code yX8_callOf cX8_callOf 3 (some .int) ∈ tg_gG := tg_mem (List.mem_of_getElem? (i := 997) (by decide +kernel)) (by decide +kernel)
theorem wv_X8_callOf : Cond.instanceMethod yX8_callOf ∈ tg_gG := tg_mem (List.mem_of_getElem? (i := 996) (by decide +kernel)) (by decide +kernel)
theorem ws_X8_callOf : Cond.selects yX8_callOf.cls yX8_callOf yX8_callOf ∈ tg_gG := tg_mem (List.mem_of_getElem? (i := 34) (by decide +kernel)) (by decide +kernel)
theorem wm_X8_153 : Cond.methodLink RX8 153 yX8_isTwo ∈ tg_gG := tg_mem (List.mem_of_getElem? (i := 988) (by decide +kernel)) (by decide +kernel)
theorem wm_X8_156 : Cond.methodLink RX8 156 yX8_isBeat ∈ tg_gG := tg_mem (List.mem_of_getElem? (i := 991) (by decide +kernel)) (by decide +kernel)
theorem wm_X8_159 : Cond.methodLink RX8 159 yX8_callOf ∈ tg_gG := tg_mem (List.mem_of_getElem? (i := 994) (by decide +kernel)) (by decide +kernel)
theorem wc_X8_call : Cond.code yX8_call cX8_call 3 (some .int) ∈ tg_gG := tg_mem (List.mem_of_getElem? (i := 987) (by decide +kernel)) (by decide +kernel)
theorem wv_X8_call : Cond.instanceMethod yX8_call ∈ tg_gG := tg_mem (List.mem_of_getElem? (i := 985) (by decide +kernel)) (by decide +kernel)
theorem ws_X8_call : Cond.selects yX8_call.cls yX8_call yX8_call ∈ tg_gG := tg_mem (List.mem_of_getElem? (i := 986) (by decide +kernel)) (by decide +kernel)
theorem wf_X8_162 : Cond.fieldLink RX8 162 (TX8 8).1 (TX8 8).2.1 (TX8 8).2.2.1 ∈ tg_gG := tg_mem (List.mem_of_getElem? (i := 782) (by decide +kernel)) (by decide +kernel)
theorem wc_X8_mud : Cond.code yX8_mud cX8_mud 3 (some .int) ∈ tg_gG := tg_mem (List.mem_of_getElem? (i := 1001) (by decide +kernel)) (by decide +kernel)
theorem wv_X8_mud : Cond.instanceMethod yX8_mud ∈ tg_gG := tg_mem (List.mem_of_getElem? (i := 999) (by decide +kernel)) (by decide +kernel)
theorem ws_X8_mud : Cond.selects yX8_mud.cls yX8_mud yX8_mud ∈ tg_gG := tg_mem (List.mem_of_getElem? (i := 1000) (by decide +kernel)) (by decide +kernel)
theorem wf_X8_166 : Cond.fieldLink RX8 166 (TX8 9).1 (TX8 9).2.1 (TX8 9).2.2.1 ∈ tg_gG := tg_mem (List.mem_of_getElem? (i := 783) (by decide +kernel)) (by decide +kernel)
theorem wf_X8_34 : Cond.fieldLink RX8 34 (TX8 10).1 (TX8 10).2.1 (TX8 10).2.2.1 ∈ tg_gG := tg_mem (List.mem_of_getElem? (i := 784) (by decide +kernel)) (by decide +kernel)
theorem wf_X8_37 : Cond.fieldLink RX8 37 (TX8 11).1 (TX8 11).2.1 (TX8 11).2.2.1 ∈ tg_gG := tg_mem (List.mem_of_getElem? (i := 785) (by decide +kernel)) (by decide +kernel)
theorem wf_X8_40 : Cond.fieldLink RX8 40 (TX8 12).1 (TX8 12).2.1 (TX8 12).2.2.1 ∈ tg_gG := tg_mem (List.mem_of_getElem? (i := 786) (by decide +kernel)) (by decide +kernel)
theorem wc_X8_event : Cond.code yX8_event cX8_event 4 (some .int) ∈ tg_gG := tg_mem (List.mem_of_getElem? (i := 1005) (by decide +kernel)) (by decide +kernel)
theorem wv_X8_event : Cond.instanceMethod yX8_event ∈ tg_gG := tg_mem (List.mem_of_getElem? (i := 1003) (by decide +kernel)) (by decide +kernel)
theorem ws_X8_event : Cond.selects yX8_event.cls yX8_event yX8_event ∈ tg_gG := tg_mem (List.mem_of_getElem? (i := 1004) (by decide +kernel)) (by decide +kernel)
theorem wc_X8_back : Cond.code yX8_back cX8_back 1 (some .int) ∈ tg_gG := tg_mem (List.mem_of_getElem? (i := 1009) (by decide +kernel)) (by decide +kernel)
theorem wv_X8_back : Cond.instanceMethod yX8_back ∈ tg_gG := tg_mem (List.mem_of_getElem? (i := 1007) (by decide +kernel)) (by decide +kernel)
theorem ws_X8_back : Cond.selects yX8_back.cls yX8_back yX8_back ∈ tg_gG := tg_mem (List.mem_of_getElem? (i := 1008) (by decide +kernel)) (by decide +kernel)
theorem wc_X8_isSheet : Cond.code yX8_isSheet cX8_isSheet 1 (some .boolean) ∈ tg_gG := tg_mem (List.mem_of_getElem? (i := 1016) (by decide +kernel)) (by decide +kernel)
theorem wt_X8_isSheet : Cond.static yX8_isSheet ∈ tg_gG := tg_mem (List.mem_of_getElem? (i := 1015) (by decide +kernel)) (by decide +kernel)
theorem wf_X8_328 : Cond.fieldLink RX8 328 (TX8 46).1 (TX8 46).2.1 (TX8 46).2.2.1 ∈ tg_gG := tg_mem (List.mem_of_getElem? (i := 820) (by decide +kernel)) (by decide +kernel)
theorem wc_X8_meets : Cond.code yX8_meets cX8_meets 2 (some .int) ∈ tg_gG := tg_mem (List.mem_of_getElem? (i := 1020) (by decide +kernel)) (by decide +kernel)
theorem wv_X8_meets : Cond.instanceMethod yX8_meets ∈ tg_gG := tg_mem (List.mem_of_getElem? (i := 1019) (by decide +kernel)) (by decide +kernel)
theorem ws_X8_meets : Cond.selects yX8_meets.cls yX8_meets yX8_meets ∈ tg_gG := tg_mem (List.mem_of_getElem? (i := 35) (by decide +kernel)) (by decide +kernel)
theorem wm_X8_169 : Cond.methodLink RX8 169 yX8_isSheet ∈ tg_gG := tg_mem (List.mem_of_getElem? (i := 1014) (by decide +kernel)) (by decide +kernel)
theorem wf_X8_91 : Cond.fieldLink RX8 91 (TX8 41).1 (TX8 41).2.1 (TX8 41).2.2.1 ∈ tg_gG := tg_mem (List.mem_of_getElem? (i := 815) (by decide +kernel)) (by decide +kernel)
theorem wm_X8_172 : Cond.methodLink RX8 172 yX8_meets ∈ tg_gG := tg_mem (List.mem_of_getElem? (i := 1017) (by decide +kernel)) (by decide +kernel)
theorem wf_X8_98 : Cond.fieldLink RX8 98 (TX8 43).1 (TX8 43).2.1 (TX8 43).2.2.1 ∈ tg_gG := tg_mem (List.mem_of_getElem? (i := 817) (by decide +kernel)) (by decide +kernel)
theorem wf_X8_101 : Cond.fieldLink RX8 101 (TX8 44).1 (TX8 44).2.1 (TX8 44).2.2.1 ∈ tg_gG := tg_mem (List.mem_of_getElem? (i := 818) (by decide +kernel)) (by decide +kernel)
theorem wm_X8_175 : Cond.methodLink RX8 175 yX8_event ∈ tg_gG := tg_mem (List.mem_of_getElem? (i := 1021) (by decide +kernel)) (by decide +kernel)
theorem wc_X8_read : Cond.code yX8_read cX8_read 4 (some .int) ∈ tg_gG := tg_mem (List.mem_of_getElem? (i := 1013) (by decide +kernel)) (by decide +kernel)
theorem wv_X8_read : Cond.instanceMethod yX8_read ∈ tg_gG := tg_mem (List.mem_of_getElem? (i := 1011) (by decide +kernel)) (by decide +kernel)
theorem ws_X8_read : Cond.selects yX8_read.cls yX8_read yX8_read ∈ tg_gG := tg_mem (List.mem_of_getElem? (i := 1012) (by decide +kernel)) (by decide +kernel)
theorem wf_X8_178 : Cond.fieldLink RX8 178 (TX8 14).1 (TX8 14).2.1 (TX8 14).2.2.1 ∈ tg_gG := tg_mem (List.mem_of_getElem? (i := 788) (by decide +kernel)) (by decide +kernel)
theorem wf_X8_43 : Cond.fieldLink RX8 43 (TX8 13).1 (TX8 13).2.1 (TX8 13).2.2.1 ∈ tg_gG := tg_mem (List.mem_of_getElem? (i := 787) (by decide +kernel)) (by decide +kernel)
theorem wf_X8_181 : Cond.fieldLink RX8 181 (TX8 16).1 (TX8 16).2.1 (TX8 16).2.2.1 ∈ tg_gG := tg_mem (List.mem_of_getElem? (i := 790) (by decide +kernel)) (by decide +kernel)
theorem wf_X8_46 : Cond.fieldLink RX8 46 (TX8 15).1 (TX8 15).2.1 (TX8 15).2.2.1 ∈ tg_gG := tg_mem (List.mem_of_getElem? (i := 789) (by decide +kernel)) (by decide +kernel)
theorem wc_X8_asTold : Cond.code yX8_asTold cX8_asTold 2 none ∈ tg_gG := tg_mem (List.mem_of_getElem? (i := 1037) (by decide +kernel)) (by decide +kernel)
theorem wv_X8_asTold : Cond.instanceMethod yX8_asTold ∈ tg_gG := tg_mem (List.mem_of_getElem? (i := 1036) (by decide +kernel)) (by decide +kernel)
theorem ws_X8_asTold : Cond.selects yX8_asTold.cls yX8_asTold yX8_asTold ∈ tg_gG := tg_mem (List.mem_of_getElem? (i := 38) (by decide +kernel)) (by decide +kernel)
theorem wc_X8_isHere : Cond.code yX8_isHere cX8_isHere 2 (some .boolean) ∈ tg_gG := tg_mem (List.mem_of_getElem? (i := 1045) (by decide +kernel)) (by decide +kernel)
theorem wv_X8_isHere : Cond.instanceMethod yX8_isHere ∈ tg_gG := tg_mem (List.mem_of_getElem? (i := 1044) (by decide +kernel)) (by decide +kernel)
theorem ws_X8_isHere : Cond.selects yX8_isHere.cls yX8_isHere yX8_isHere ∈ tg_gG := tg_mem (List.mem_of_getElem? (i := 40) (by decide +kernel)) (by decide +kernel)
theorem wf_X8_184 : Cond.fieldLink RX8 184 (TX8 19).1 (TX8 19).2.1 (TX8 19).2.2.1 ∈ tg_gG := tg_mem (List.mem_of_getElem? (i := 793) (by decide +kernel)) (by decide +kernel)
theorem wf_X8_187 : Cond.fieldLink RX8 187 (TX8 20).1 (TX8 20).2.1 (TX8 20).2.2.1 ∈ tg_gG := tg_mem (List.mem_of_getElem? (i := 794) (by decide +kernel)) (by decide +kernel)
theorem wm_X8_190 : Cond.methodLink RX8 190 yX8_isIn ∈ tg_gG := tg_mem (List.mem_of_getElem? (i := 1054) (by decide +kernel)) (by decide +kernel)
theorem wf_X8_194 : Cond.fieldLink RX8 194 (TX8 18).1 (TX8 18).2.1 (TX8 18).2.2.1 ∈ tg_gG := tg_mem (List.mem_of_getElem? (i := 792) (by decide +kernel)) (by decide +kernel)
theorem wc_X8_befalls : Cond.code yX8_befalls cX8_befalls 3 none ∈ tg_gG := tg_mem (List.mem_of_getElem? (i := 1053) (by decide +kernel)) (by decide +kernel)
theorem wv_X8_befalls : Cond.instanceMethod yX8_befalls ∈ tg_gG := tg_mem (List.mem_of_getElem? (i := 1052) (by decide +kernel)) (by decide +kernel)
theorem ws_X8_befalls : Cond.selects yX8_befalls.cls yX8_befalls yX8_befalls ∈ tg_gG := tg_mem (List.mem_of_getElem? (i := 42) (by decide +kernel)) (by decide +kernel)
theorem wf_X8_49 : Cond.fieldLink RX8 49 (TX8 17).1 (TX8 17).2.1 (TX8 17).2.2.1 ∈ tg_gG := tg_mem (List.mem_of_getElem? (i := 791) (by decide +kernel)) (by decide +kernel)
theorem wf_X8_52 : Cond.fieldLink RX8 52 (TX8 25).1 (TX8 25).2.1 (TX8 25).2.2.1 ∈ tg_gG := tg_mem (List.mem_of_getElem? (i := 799) (by decide +kernel)) (by decide +kernel)
theorem wc_X8_strength : Cond.code yX8_strength cX8_strength 5 (some .int) ∈ tg_gG := tg_mem (List.mem_of_getElem? (i := 1064) (by decide +kernel)) (by decide +kernel)
theorem wv_X8_strength : Cond.instanceMethod yX8_strength ∈ tg_gG := tg_mem (List.mem_of_getElem? (i := 1063) (by decide +kernel)) (by decide +kernel)
theorem ws_X8_strength : Cond.selects yX8_strength.cls yX8_strength yX8_strength ∈ tg_gG := tg_mem (List.mem_of_getElem? (i := 44) (by decide +kernel)) (by decide +kernel)
theorem wm_X8_197 : Cond.methodLink RX8 197 yX8_strength ∈ tg_gG := tg_mem (List.mem_of_getElem? (i := 1061) (by decide +kernel)) (by decide +kernel)
theorem wf_X8_58 : Cond.fieldLink RX8 58 (TX8 27).1 (TX8 27).2.1 (TX8 27).2.2.1 ∈ tg_gG := tg_mem (List.mem_of_getElem? (i := 801) (by decide +kernel)) (by decide +kernel)
theorem wf_X8_55 : Cond.fieldLink RX8 55 (TX8 26).1 (TX8 26).2.1 (TX8 26).2.2.1 ∈ tg_gG := tg_mem (List.mem_of_getElem? (i := 800) (by decide +kernel)) (by decide +kernel)
theorem wf_X8_61 : Cond.fieldLink RX8 61 (TX8 28).1 (TX8 28).2.1 (TX8 28).2.2.1 ∈ tg_gG := tg_mem (List.mem_of_getElem? (i := 802) (by decide +kernel)) (by decide +kernel)
theorem wc_X8_pullsOne : Cond.code yX8_pullsOne cX8_pullsOne 6 none ∈ tg_gG := tg_mem (List.mem_of_getElem? (i := 1060) (by decide +kernel)) (by decide +kernel)
theorem wv_X8_pullsOne : Cond.instanceMethod yX8_pullsOne ∈ tg_gG := tg_mem (List.mem_of_getElem? (i := 1059) (by decide +kernel)) (by decide +kernel)
theorem ws_X8_pullsOne : Cond.selects yX8_pullsOne.cls yX8_pullsOne yX8_pullsOne ∈ tg_gG := tg_mem (List.mem_of_getElem? (i := 43) (by decide +kernel)) (by decide +kernel)
theorem wf_X8_200 : Cond.fieldLink RX8 200 (TX8 24).1 (TX8 24).2.1 (TX8 24).2.2.1 ∈ tg_gG := tg_mem (List.mem_of_getElem? (i := 798) (by decide +kernel)) (by decide +kernel)
theorem wf_X8_203 : Cond.fieldLink RX8 203 (TX8 21).1 (TX8 21).2.1 (TX8 21).2.2.1 ∈ tg_gG := tg_mem (List.mem_of_getElem? (i := 795) (by decide +kernel)) (by decide +kernel)
theorem wf_X8_206 : Cond.fieldLink RX8 206 (TX8 22).1 (TX8 22).2.1 (TX8 22).2.2.1 ∈ tg_gG := tg_mem (List.mem_of_getElem? (i := 796) (by decide +kernel)) (by decide +kernel)
theorem wf_X8_209 : Cond.fieldLink RX8 209 (TX8 23).1 (TX8 23).2.1 (TX8 23).2.2.1 ∈ tg_gG := tg_mem (List.mem_of_getElem? (i := 797) (by decide +kernel)) (by decide +kernel)
theorem wc_X8_goes : Cond.code yX8_goes cX8_goes 4 none ∈ tg_gG := tg_mem (List.mem_of_getElem? (i := 1068) (by decide +kernel)) (by decide +kernel)
theorem wv_X8_goes : Cond.instanceMethod yX8_goes ∈ tg_gG := tg_mem (List.mem_of_getElem? (i := 1067) (by decide +kernel)) (by decide +kernel)
theorem ws_X8_goes : Cond.selects yX8_goes.cls yX8_goes yX8_goes ∈ tg_gG := tg_mem (List.mem_of_getElem? (i := 45) (by decide +kernel)) (by decide +kernel)
theorem wm_X8_212 : Cond.methodLink RX8 212 yX8_befalls ∈ tg_gG := tg_mem (List.mem_of_getElem? (i := 1050) (by decide +kernel)) (by decide +kernel)
theorem wm_X8_223 : Cond.methodLink RX8 223 yX8_goes ∈ tg_gG := tg_mem (List.mem_of_getElem? (i := 1065) (by decide +kernel)) (by decide +kernel)
theorem wm_X8_216 : Cond.methodLink RX8 216 yX8_isHere ∈ tg_gG := tg_mem (List.mem_of_getElem? (i := 1042) (by decide +kernel)) (by decide +kernel)
theorem wm_X8_219 : Cond.methodLink RX8 219 yX8_pullsOne ∈ tg_gG := tg_mem (List.mem_of_getElem? (i := 1057) (by decide +kernel)) (by decide +kernel)
theorem wf_X8_64 : Cond.fieldLink RX8 64 (TX8 29).1 (TX8 29).2.1 (TX8 29).2.2.1 ∈ tg_gG := tg_mem (List.mem_of_getElem? (i := 803) (by decide +kernel)) (by decide +kernel)
theorem wf_X8_67 : Cond.fieldLink RX8 67 (TX8 30).1 (TX8 30).2.1 (TX8 30).2.2.1 ∈ tg_gG := tg_mem (List.mem_of_getElem? (i := 804) (by decide +kernel)) (by decide +kernel)
theorem wf_X8_70 : Cond.fieldLink RX8 70 (TX8 31).1 (TX8 31).2.1 (TX8 31).2.2.1 ∈ tg_gG := tg_mem (List.mem_of_getElem? (i := 805) (by decide +kernel)) (by decide +kernel)
theorem wf_X8_73 : Cond.fieldLink RX8 73 (TX8 32).1 (TX8 32).2.1 (TX8 32).2.2.1 ∈ tg_gG := tg_mem (List.mem_of_getElem? (i := 806) (by decide +kernel)) (by decide +kernel)
theorem wf_X8_76 : Cond.fieldLink RX8 76 (TX8 33).1 (TX8 33).2.1 (TX8 33).2.2.1 ∈ tg_gG := tg_mem (List.mem_of_getElem? (i := 807) (by decide +kernel)) (by decide +kernel)
theorem wc_X8_goesBy : Cond.code yX8_goesBy cX8_goesBy 3 none ∈ tg_gG := tg_mem (List.mem_of_getElem? (i := 1049) (by decide +kernel)) (by decide +kernel)
theorem wv_X8_goesBy : Cond.instanceMethod yX8_goesBy ∈ tg_gG := tg_mem (List.mem_of_getElem? (i := 1048) (by decide +kernel)) (by decide +kernel)
theorem ws_X8_goesBy : Cond.selects yX8_goesBy.cls yX8_goesBy yX8_goesBy ∈ tg_gG := tg_mem (List.mem_of_getElem? (i := 41) (by decide +kernel)) (by decide +kernel)
theorem wm_X8_226 : Cond.methodLink RX8 226 yX8_goesBy ∈ tg_gG := tg_mem (List.mem_of_getElem? (i := 1046) (by decide +kernel)) (by decide +kernel)
theorem wc_X8_runs : Cond.code yX8_runs cX8_runs 4 none ∈ tg_gG := tg_mem (List.mem_of_getElem? (i := 1041) (by decide +kernel)) (by decide +kernel)
theorem wv_X8_runs : Cond.instanceMethod yX8_runs ∈ tg_gG := tg_mem (List.mem_of_getElem? (i := 1040) (by decide +kernel)) (by decide +kernel)
theorem ws_X8_runs : Cond.selects yX8_runs.cls yX8_runs yX8_runs ∈ tg_gG := tg_mem (List.mem_of_getElem? (i := 39) (by decide +kernel)) (by decide +kernel)
theorem wm_X8_229 : Cond.methodLink RX8 229 yX8_asTold ∈ tg_gG := tg_mem (List.mem_of_getElem? (i := 1034) (by decide +kernel)) (by decide +kernel)
theorem wm_X8_232 : Cond.methodLink RX8 232 yX8_runs ∈ tg_gG := tg_mem (List.mem_of_getElem? (i := 1038) (by decide +kernel)) (by decide +kernel)
theorem wc_X8_runsTold : Cond.code yX8_runsTold cX8_runsTold 1 none ∈ tg_gG := tg_mem (List.mem_of_getElem? (i := 1033) (by decide +kernel)) (by decide +kernel)
theorem wv_X8_runsTold : Cond.instanceMethod yX8_runsTold ∈ tg_gG := tg_mem (List.mem_of_getElem? (i := 1032) (by decide +kernel)) (by decide +kernel)
theorem ws_X8_runsTold : Cond.selects yX8_runsTold.cls yX8_runsTold yX8_runsTold ∈ tg_gG := tg_mem (List.mem_of_getElem? (i := 37) (by decide +kernel)) (by decide +kernel)
theorem wm_X8_235 : Cond.methodLink RX8 235 yX8_runsTold ∈ tg_gG := tg_mem (List.mem_of_getElem? (i := 1030) (by decide +kernel)) (by decide +kernel)
theorem wc_X8_ropeOf : Cond.code yX8_ropeOf cX8_ropeOf 3 (some .int) ∈ tg_gG := tg_mem (List.mem_of_getElem? (i := 1029) (by decide +kernel)) (by decide +kernel)
theorem wv_X8_ropeOf : Cond.instanceMethod yX8_ropeOf ∈ tg_gG := tg_mem (List.mem_of_getElem? (i := 1028) (by decide +kernel)) (by decide +kernel)
theorem ws_X8_ropeOf : Cond.selects yX8_ropeOf.cls yX8_ropeOf yX8_ropeOf ∈ tg_gG := tg_mem (List.mem_of_getElem? (i := 36) (by decide +kernel)) (by decide +kernel)
theorem wm_X8_238 : Cond.methodLink RX8 238 yX8_ropeOf ∈ tg_gG := tg_mem (List.mem_of_getElem? (i := 1026) (by decide +kernel)) (by decide +kernel)
theorem wc_X8_rope : Cond.code yX8_rope cX8_rope 3 (some .int) ∈ tg_gG := tg_mem (List.mem_of_getElem? (i := 1025) (by decide +kernel)) (by decide +kernel)
theorem wv_X8_rope : Cond.instanceMethod yX8_rope ∈ tg_gG := tg_mem (List.mem_of_getElem? (i := 1023) (by decide +kernel)) (by decide +kernel)
theorem ws_X8_rope : Cond.selects yX8_rope.cls yX8_rope yX8_rope ∈ tg_gG := tg_mem (List.mem_of_getElem? (i := 1024) (by decide +kernel)) (by decide +kernel)
theorem wc_X8_atOf : Cond.code yX8_atOf cX8_atOf 4 (some .int) ∈ tg_gG := tg_mem (List.mem_of_getElem? (i := 1076) (by decide +kernel)) (by decide +kernel)
theorem wv_X8_atOf : Cond.instanceMethod yX8_atOf ∈ tg_gG := tg_mem (List.mem_of_getElem? (i := 1075) (by decide +kernel)) (by decide +kernel)
theorem ws_X8_atOf : Cond.selects yX8_atOf.cls yX8_atOf yX8_atOf ∈ tg_gG := tg_mem (List.mem_of_getElem? (i := 46) (by decide +kernel)) (by decide +kernel)
theorem wm_X8_241 : Cond.methodLink RX8 241 yX8_atOf ∈ tg_gG := tg_mem (List.mem_of_getElem? (i := 1073) (by decide +kernel)) (by decide +kernel)
theorem wc_X8_at : Cond.code yX8_at cX8_at 4 (some .int) ∈ tg_gG := tg_mem (List.mem_of_getElem? (i := 1072) (by decide +kernel)) (by decide +kernel)
theorem wv_X8_at : Cond.instanceMethod yX8_at ∈ tg_gG := tg_mem (List.mem_of_getElem? (i := 1070) (by decide +kernel)) (by decide +kernel)
theorem ws_X8_at : Cond.selects yX8_at.cls yX8_at yX8_at ∈ tg_gG := tg_mem (List.mem_of_getElem? (i := 1071) (by decide +kernel)) (by decide +kernel)
theorem wc_X8_wonOf : Cond.code yX8_wonOf cX8_wonOf 2 (some .int) ∈ tg_gG := tg_mem (List.mem_of_getElem? (i := 1084) (by decide +kernel)) (by decide +kernel)
theorem wv_X8_wonOf : Cond.instanceMethod yX8_wonOf ∈ tg_gG := tg_mem (List.mem_of_getElem? (i := 1083) (by decide +kernel)) (by decide +kernel)
theorem ws_X8_wonOf : Cond.selects yX8_wonOf.cls yX8_wonOf yX8_wonOf ∈ tg_gG := tg_mem (List.mem_of_getElem? (i := 47) (by decide +kernel)) (by decide +kernel)
theorem wm_X8_244 : Cond.methodLink RX8 244 yX8_wonOf ∈ tg_gG := tg_mem (List.mem_of_getElem? (i := 1081) (by decide +kernel)) (by decide +kernel)
theorem wc_X8_won : Cond.code yX8_won cX8_won 2 (some .int) ∈ tg_gG := tg_mem (List.mem_of_getElem? (i := 1080) (by decide +kernel)) (by decide +kernel)
theorem wv_X8_won : Cond.instanceMethod yX8_won ∈ tg_gG := tg_mem (List.mem_of_getElem? (i := 1078) (by decide +kernel)) (by decide +kernel)
theorem ws_X8_won : Cond.selects yX8_won.cls yX8_won yX8_won ∈ tg_gG := tg_mem (List.mem_of_getElem? (i := 1079) (by decide +kernel)) (by decide +kernel)
theorem wc_X8_furthestOf : Cond.code yX8_furthestOf cX8_furthestOf 5 (some .int) ∈ tg_gG := tg_mem (List.mem_of_getElem? (i := 1092) (by decide +kernel)) (by decide +kernel)
theorem wv_X8_furthestOf : Cond.instanceMethod yX8_furthestOf ∈ tg_gG := tg_mem (List.mem_of_getElem? (i := 1091) (by decide +kernel)) (by decide +kernel)
theorem ws_X8_furthestOf : Cond.selects yX8_furthestOf.cls yX8_furthestOf yX8_furthestOf ∈ tg_gG := tg_mem (List.mem_of_getElem? (i := 48) (by decide +kernel)) (by decide +kernel)
theorem wm_X8_247 : Cond.methodLink RX8 247 yX8_furthestOf ∈ tg_gG := tg_mem (List.mem_of_getElem? (i := 1089) (by decide +kernel)) (by decide +kernel)
theorem wc_X8_furthest : Cond.code yX8_furthest cX8_furthest 2 (some .int) ∈ tg_gG := tg_mem (List.mem_of_getElem? (i := 1088) (by decide +kernel)) (by decide +kernel)
theorem wv_X8_furthest : Cond.instanceMethod yX8_furthest ∈ tg_gG := tg_mem (List.mem_of_getElem? (i := 1086) (by decide +kernel)) (by decide +kernel)
theorem ws_X8_furthest : Cond.selects yX8_furthest.cls yX8_furthest yX8_furthest ∈ tg_gG := tg_mem (List.mem_of_getElem? (i := 1087) (by decide +kernel)) (by decide +kernel)
theorem wc_X8_doneOf : Cond.code yX8_doneOf cX8_doneOf 2 (some .int) ∈ tg_gG := tg_mem (List.mem_of_getElem? (i := 1100) (by decide +kernel)) (by decide +kernel)
theorem wv_X8_doneOf : Cond.instanceMethod yX8_doneOf ∈ tg_gG := tg_mem (List.mem_of_getElem? (i := 1099) (by decide +kernel)) (by decide +kernel)
theorem ws_X8_doneOf : Cond.selects yX8_doneOf.cls yX8_doneOf yX8_doneOf ∈ tg_gG := tg_mem (List.mem_of_getElem? (i := 49) (by decide +kernel)) (by decide +kernel)
theorem wm_X8_250 : Cond.methodLink RX8 250 yX8_doneOf ∈ tg_gG := tg_mem (List.mem_of_getElem? (i := 1097) (by decide +kernel)) (by decide +kernel)
theorem wc_X8_done : Cond.code yX8_done cX8_done 2 (some .int) ∈ tg_gG := tg_mem (List.mem_of_getElem? (i := 1096) (by decide +kernel)) (by decide +kernel)
theorem wv_X8_done : Cond.instanceMethod yX8_done ∈ tg_gG := tg_mem (List.mem_of_getElem? (i := 1094) (by decide +kernel)) (by decide +kernel)
theorem ws_X8_done : Cond.selects yX8_done.cls yX8_done yX8_done ∈ tg_gG := tg_mem (List.mem_of_getElem? (i := 1095) (by decide +kernel)) (by decide +kernel)
theorem wc_X8_spentOf : Cond.code yX8_spentOf cX8_spentOf 3 (some .int) ∈ tg_gG := tg_mem (List.mem_of_getElem? (i := 1108) (by decide +kernel)) (by decide +kernel)
theorem wv_X8_spentOf : Cond.instanceMethod yX8_spentOf ∈ tg_gG := tg_mem (List.mem_of_getElem? (i := 1107) (by decide +kernel)) (by decide +kernel)
theorem ws_X8_spentOf : Cond.selects yX8_spentOf.cls yX8_spentOf yX8_spentOf ∈ tg_gG := tg_mem (List.mem_of_getElem? (i := 50) (by decide +kernel)) (by decide +kernel)
theorem wm_X8_253 : Cond.methodLink RX8 253 yX8_spentOf ∈ tg_gG := tg_mem (List.mem_of_getElem? (i := 1105) (by decide +kernel)) (by decide +kernel)
theorem wc_X8_spent : Cond.code yX8_spent cX8_spent 1 (some .int) ∈ tg_gG := tg_mem (List.mem_of_getElem? (i := 1104) (by decide +kernel)) (by decide +kernel)
theorem wv_X8_spent : Cond.instanceMethod yX8_spent ∈ tg_gG := tg_mem (List.mem_of_getElem? (i := 1102) (by decide +kernel)) (by decide +kernel)
theorem ws_X8_spent : Cond.selects yX8_spent.cls yX8_spent yX8_spent ∈ tg_gG := tg_mem (List.mem_of_getElem? (i := 1103) (by decide +kernel)) (by decide +kernel)
theorem wc_X8_bestOf : Cond.code yX8_bestOf cX8_bestOf 4 (some .int) ∈ tg_gG := tg_mem (List.mem_of_getElem? (i := 1116) (by decide +kernel)) (by decide +kernel)
theorem wv_X8_bestOf : Cond.instanceMethod yX8_bestOf ∈ tg_gG := tg_mem (List.mem_of_getElem? (i := 1115) (by decide +kernel)) (by decide +kernel)
theorem ws_X8_bestOf : Cond.selects yX8_bestOf.cls yX8_bestOf yX8_bestOf ∈ tg_gG := tg_mem (List.mem_of_getElem? (i := 51) (by decide +kernel)) (by decide +kernel)
theorem wm_X8_257 : Cond.methodLink RX8 257 yX8_bestOf ∈ tg_gG := tg_mem (List.mem_of_getElem? (i := 1113) (by decide +kernel)) (by decide +kernel)
theorem wc_X8_best : Cond.code yX8_best cX8_best 1 (some .int) ∈ tg_gG := tg_mem (List.mem_of_getElem? (i := 1112) (by decide +kernel)) (by decide +kernel)
theorem wv_X8_best : Cond.instanceMethod yX8_best ∈ tg_gG := tg_mem (List.mem_of_getElem? (i := 1110) (by decide +kernel)) (by decide +kernel)
theorem ws_X8_best : Cond.selects yX8_best.cls yX8_best yX8_best ∈ tg_gG := tg_mem (List.mem_of_getElem? (i := 1111) (by decide +kernel)) (by decide +kernel)
theorem wc_X8_levelOf : Cond.code yX8_levelOf cX8_levelOf 1 (some .int) ∈ tg_gG := tg_mem (List.mem_of_getElem? (i := 1124) (by decide +kernel)) (by decide +kernel)
theorem wv_X8_levelOf : Cond.instanceMethod yX8_levelOf ∈ tg_gG := tg_mem (List.mem_of_getElem? (i := 1123) (by decide +kernel)) (by decide +kernel)
theorem ws_X8_levelOf : Cond.selects yX8_levelOf.cls yX8_levelOf yX8_levelOf ∈ tg_gG := tg_mem (List.mem_of_getElem? (i := 52) (by decide +kernel)) (by decide +kernel)
theorem wm_X8_260 : Cond.methodLink RX8 260 yX8_levelOf ∈ tg_gG := tg_mem (List.mem_of_getElem? (i := 1121) (by decide +kernel)) (by decide +kernel)
theorem wc_X8_level : Cond.code yX8_level cX8_level 1 (some .int) ∈ tg_gG := tg_mem (List.mem_of_getElem? (i := 1120) (by decide +kernel)) (by decide +kernel)
theorem wv_X8_level : Cond.instanceMethod yX8_level ∈ tg_gG := tg_mem (List.mem_of_getElem? (i := 1118) (by decide +kernel)) (by decide +kernel)
theorem ws_X8_level : Cond.selects yX8_level.cls yX8_level yX8_level ∈ tg_gG := tg_mem (List.mem_of_getElem? (i := 1119) (by decide +kernel)) (by decide +kernel)
theorem wf_X8_263 : Cond.fieldLink RX8 263 (TX8 34).1 (TX8 34).2.1 (TX8 34).2.2.1 ∈ tg_gG := tg_mem (List.mem_of_getElem? (i := 808) (by decide +kernel)) (by decide +kernel)
theorem wf_X8_266 : Cond.fieldLink RX8 266 (TX8 35).1 (TX8 35).2.1 (TX8 35).2.2.1 ∈ tg_gG := tg_mem (List.mem_of_getElem? (i := 809) (by decide +kernel)) (by decide +kernel)
theorem wc_X8_starts : Cond.code yX8_starts cX8_starts 1 none ∈ tg_gG := tg_mem (List.mem_of_getElem? (i := 1136) (by decide +kernel)) (by decide +kernel)
theorem wv_X8_starts : Cond.instanceMethod yX8_starts ∈ tg_gG := tg_mem (List.mem_of_getElem? (i := 1135) (by decide +kernel)) (by decide +kernel)
theorem ws_X8_starts : Cond.selects yX8_starts.cls yX8_starts yX8_starts ∈ tg_gG := tg_mem (List.mem_of_getElem? (i := 54) (by decide +kernel)) (by decide +kernel)
theorem wc_X8_tries : Cond.code yX8_tries cX8_tries 4 none ∈ tg_gG := tg_mem (List.mem_of_getElem? (i := 1140) (by decide +kernel)) (by decide +kernel)
theorem wv_X8_tries : Cond.instanceMethod yX8_tries ∈ tg_gG := tg_mem (List.mem_of_getElem? (i := 1139) (by decide +kernel)) (by decide +kernel)
theorem ws_X8_tries : Cond.selects yX8_tries.cls yX8_tries yX8_tries ∈ tg_gG := tg_mem (List.mem_of_getElem? (i := 55) (by decide +kernel)) (by decide +kernel)
theorem wm_X8_269 : Cond.methodLink RX8 269 yX8_starts ∈ tg_gG := tg_mem (List.mem_of_getElem? (i := 1133) (by decide +kernel)) (by decide +kernel)
theorem wm_X8_272 : Cond.methodLink RX8 272 yX8_tries ∈ tg_gG := tg_mem (List.mem_of_getElem? (i := 1137) (by decide +kernel)) (by decide +kernel)
theorem wc_X8_betterOf : Cond.code yX8_betterOf cX8_betterOf 5 (some .int) ∈ tg_gG := tg_mem (List.mem_of_getElem? (i := 1132) (by decide +kernel)) (by decide +kernel)
theorem wv_X8_betterOf : Cond.instanceMethod yX8_betterOf ∈ tg_gG := tg_mem (List.mem_of_getElem? (i := 1131) (by decide +kernel)) (by decide +kernel)
theorem ws_X8_betterOf : Cond.selects yX8_betterOf.cls yX8_betterOf yX8_betterOf ∈ tg_gG := tg_mem (List.mem_of_getElem? (i := 53) (by decide +kernel)) (by decide +kernel)
theorem wm_X8_275 : Cond.methodLink RX8 275 yX8_betterOf ∈ tg_gG := tg_mem (List.mem_of_getElem? (i := 1129) (by decide +kernel)) (by decide +kernel)
theorem wc_X8_better : Cond.code yX8_better cX8_better 4 (some .int) ∈ tg_gG := tg_mem (List.mem_of_getElem? (i := 1128) (by decide +kernel)) (by decide +kernel)
theorem wv_X8_better : Cond.instanceMethod yX8_better ∈ tg_gG := tg_mem (List.mem_of_getElem? (i := 1126) (by decide +kernel)) (by decide +kernel)
theorem ws_X8_better : Cond.selects yX8_better.cls yX8_better yX8_better ∈ tg_gG := tg_mem (List.mem_of_getElem? (i := 1127) (by decide +kernel)) (by decide +kernel)
theorem wc_X8_swapOf : Cond.code yX8_swapOf cX8_swapOf 6 (some .int) ∈ tg_gG := tg_mem (List.mem_of_getElem? (i := 1148) (by decide +kernel)) (by decide +kernel)
theorem wv_X8_swapOf : Cond.instanceMethod yX8_swapOf ∈ tg_gG := tg_mem (List.mem_of_getElem? (i := 1147) (by decide +kernel)) (by decide +kernel)
theorem ws_X8_swapOf : Cond.selects yX8_swapOf.cls yX8_swapOf yX8_swapOf ∈ tg_gG := tg_mem (List.mem_of_getElem? (i := 56) (by decide +kernel)) (by decide +kernel)
theorem wm_X8_278 : Cond.methodLink RX8 278 yX8_swapOf ∈ tg_gG := tg_mem (List.mem_of_getElem? (i := 1145) (by decide +kernel)) (by decide +kernel)
theorem wc_X8_swap : Cond.code yX8_swap cX8_swap 3 (some .int) ∈ tg_gG := tg_mem (List.mem_of_getElem? (i := 1144) (by decide +kernel)) (by decide +kernel)
theorem wv_X8_swap : Cond.instanceMethod yX8_swap ∈ tg_gG := tg_mem (List.mem_of_getElem? (i := 1142) (by decide +kernel)) (by decide +kernel)
theorem ws_X8_swap : Cond.selects yX8_swap.cls yX8_swap yX8_swap ∈ tg_gG := tg_mem (List.mem_of_getElem? (i := 1143) (by decide +kernel)) (by decide +kernel)
theorem wc_X8_outOf : Cond.code yX8_outOf cX8_outOf 4 (some .int) ∈ tg_gG := tg_mem (List.mem_of_getElem? (i := 1156) (by decide +kernel)) (by decide +kernel)
theorem wv_X8_outOf : Cond.instanceMethod yX8_outOf ∈ tg_gG := tg_mem (List.mem_of_getElem? (i := 1155) (by decide +kernel)) (by decide +kernel)
theorem ws_X8_outOf : Cond.selects yX8_outOf.cls yX8_outOf yX8_outOf ∈ tg_gG := tg_mem (List.mem_of_getElem? (i := 57) (by decide +kernel)) (by decide +kernel)
theorem wm_X8_281 : Cond.methodLink RX8 281 yX8_outOf ∈ tg_gG := tg_mem (List.mem_of_getElem? (i := 1153) (by decide +kernel)) (by decide +kernel)
theorem wc_X8_out : Cond.code yX8_out cX8_out 3 (some .int) ∈ tg_gG := tg_mem (List.mem_of_getElem? (i := 1152) (by decide +kernel)) (by decide +kernel)
theorem wv_X8_out : Cond.instanceMethod yX8_out ∈ tg_gG := tg_mem (List.mem_of_getElem? (i := 1150) (by decide +kernel)) (by decide +kernel)
theorem ws_X8_out : Cond.selects yX8_out.cls yX8_out yX8_out ∈ tg_gG := tg_mem (List.mem_of_getElem? (i := 1151) (by decide +kernel)) (by decide +kernel)
theorem wc_X8_isSpared : Cond.code yX8_isSpared cX8_isSpared 2 (some .boolean) ∈ tg_gG := tg_mem (List.mem_of_getElem? (i := 1168) (by decide +kernel)) (by decide +kernel)
theorem wv_X8_isSpared : Cond.instanceMethod yX8_isSpared ∈ tg_gG := tg_mem (List.mem_of_getElem? (i := 1167) (by decide +kernel)) (by decide +kernel)
theorem ws_X8_isSpared : Cond.selects yX8_isSpared.cls yX8_isSpared yX8_isSpared ∈ tg_gG := tg_mem (List.mem_of_getElem? (i := 59) (by decide +kernel)) (by decide +kernel)
theorem wm_X8_284 : Cond.methodLink RX8 284 yX8_isSpared ∈ tg_gG := tg_mem (List.mem_of_getElem? (i := 1165) (by decide +kernel)) (by decide +kernel)
theorem wf_X8_79 : Cond.fieldLink RX8 79 (TX8 36).1 (TX8 36).2.1 (TX8 36).2.2.1 ∈ tg_gG := tg_mem (List.mem_of_getElem? (i := 810) (by decide +kernel)) (by decide +kernel)
theorem wc_X8_spareBy : Cond.code yX8_spareBy cX8_spareBy 3 (some .int) ∈ tg_gG := tg_mem (List.mem_of_getElem? (i := 1164) (by decide +kernel)) (by decide +kernel)
theorem wv_X8_spareBy : Cond.instanceMethod yX8_spareBy ∈ tg_gG := tg_mem (List.mem_of_getElem? (i := 1163) (by decide +kernel)) (by decide +kernel)
theorem ws_X8_spareBy : Cond.selects yX8_spareBy.cls yX8_spareBy yX8_spareBy ∈ tg_gG := tg_mem (List.mem_of_getElem? (i := 58) (by decide +kernel)) (by decide +kernel)
theorem wc_X8_ofRow : Cond.code yX8_ofRow cX8_ofRow 3 (some .int) ∈ tg_gG := tg_mem (List.mem_of_getElem? (i := 1172) (by decide +kernel)) (by decide +kernel)
theorem wv_X8_ofRow : Cond.instanceMethod yX8_ofRow ∈ tg_gG := tg_mem (List.mem_of_getElem? (i := 1171) (by decide +kernel)) (by decide +kernel)
theorem ws_X8_ofRow : Cond.selects yX8_ofRow.cls yX8_ofRow yX8_ofRow ∈ tg_gG := tg_mem (List.mem_of_getElem? (i := 60) (by decide +kernel)) (by decide +kernel)
theorem wm_X8_287 : Cond.methodLink RX8 287 yX8_spareBy ∈ tg_gG := tg_mem (List.mem_of_getElem? (i := 1161) (by decide +kernel)) (by decide +kernel)
theorem wm_X8_290 : Cond.methodLink RX8 290 yX8_ofRow ∈ tg_gG := tg_mem (List.mem_of_getElem? (i := 1169) (by decide +kernel)) (by decide +kernel)
theorem wc_X8_spare : Cond.code yX8_spare cX8_spare 2 (some .int) ∈ tg_gG := tg_mem (List.mem_of_getElem? (i := 1160) (by decide +kernel)) (by decide +kernel)
theorem wv_X8_spare : Cond.instanceMethod yX8_spare ∈ tg_gG := tg_mem (List.mem_of_getElem? (i := 1158) (by decide +kernel)) (by decide +kernel)
theorem ws_X8_spare : Cond.selects yX8_spare.cls yX8_spare yX8_spare ∈ tg_gG := tg_mem (List.mem_of_getElem? (i := 1159) (by decide +kernel)) (by decide +kernel)
theorem wf_X8_293 : Cond.fieldLink RX8 293 (TX8 37).1 (TX8 37).2.1 (TX8 37).2.2.1 ∈ tg_gG := tg_mem (List.mem_of_getElem? (i := 811) (by decide +kernel)) (by decide +kernel)
theorem wf_X8_82 : Cond.fieldLink RX8 82 (TX8 38).1 (TX8 38).2.1 (TX8 38).2.2.1 ∈ tg_gG := tg_mem (List.mem_of_getElem? (i := 812) (by decide +kernel)) (by decide +kernel)
theorem wf_X8_85 : Cond.fieldLink RX8 85 (TX8 39).1 (TX8 39).2.1 (TX8 39).2.2.1 ∈ tg_gG := tg_mem (List.mem_of_getElem? (i := 813) (by decide +kernel)) (by decide +kernel)
theorem wc_X8_seen : Cond.code yX8_seen cX8_seen 3 (some .int) ∈ tg_gG := tg_mem (List.mem_of_getElem? (i := 1176) (by decide +kernel)) (by decide +kernel)
theorem wv_X8_seen : Cond.instanceMethod yX8_seen ∈ tg_gG := tg_mem (List.mem_of_getElem? (i := 1174) (by decide +kernel)) (by decide +kernel)
theorem ws_X8_seen : Cond.selects yX8_seen.cls yX8_seen yX8_seen ∈ tg_gG := tg_mem (List.mem_of_getElem? (i := 1175) (by decide +kernel)) (by decide +kernel)
theorem wc_X8_forget : Cond.code yX8_forget cX8_forget 2 (some .int) ∈ tg_gG := tg_mem (List.mem_of_getElem? (i := 1180) (by decide +kernel)) (by decide +kernel)
theorem wv_X8_forget : Cond.instanceMethod yX8_forget ∈ tg_gG := tg_mem (List.mem_of_getElem? (i := 1178) (by decide +kernel)) (by decide +kernel)
theorem ws_X8_forget : Cond.selects yX8_forget.cls yX8_forget yX8_forget ∈ tg_gG := tg_mem (List.mem_of_getElem? (i := 1179) (by decide +kernel)) (by decide +kernel)
theorem wc_X8_isSeen : Cond.code yX8_isSeen cX8_isSeen 3 (some .boolean) ∈ tg_gG := tg_mem (List.mem_of_getElem? (i := 1192) (by decide +kernel)) (by decide +kernel)
theorem wv_X8_isSeen : Cond.instanceMethod yX8_isSeen ∈ tg_gG := tg_mem (List.mem_of_getElem? (i := 1191) (by decide +kernel)) (by decide +kernel)
theorem ws_X8_isSeen : Cond.selects yX8_isSeen.cls yX8_isSeen yX8_isSeen ∈ tg_gG := tg_mem (List.mem_of_getElem? (i := 62) (by decide +kernel)) (by decide +kernel)
theorem wm_X8_296 : Cond.methodLink RX8 296 yX8_isSeen ∈ tg_gG := tg_mem (List.mem_of_getElem? (i := 1189) (by decide +kernel)) (by decide +kernel)
theorem wc_X8_neverNow : Cond.code yX8_neverNow cX8_neverNow 3 (some .int) ∈ tg_gG := tg_mem (List.mem_of_getElem? (i := 1188) (by decide +kernel)) (by decide +kernel)
theorem wv_X8_neverNow : Cond.instanceMethod yX8_neverNow ∈ tg_gG := tg_mem (List.mem_of_getElem? (i := 1187) (by decide +kernel)) (by decide +kernel)
theorem ws_X8_neverNow : Cond.selects yX8_neverNow.cls yX8_neverNow yX8_neverNow ∈ tg_gG := tg_mem (List.mem_of_getElem? (i := 61) (by decide +kernel)) (by decide +kernel)
theorem wm_X8_300 : Cond.methodLink RX8 300 yX8_neverNow ∈ tg_gG := tg_mem (List.mem_of_getElem? (i := 1185) (by decide +kernel)) (by decide +kernel)
theorem wc_X8_never : Cond.code yX8_never cX8_never 1 (some .int) ∈ tg_gG := tg_mem (List.mem_of_getElem? (i := 1184) (by decide +kernel)) (by decide +kernel)
theorem wv_X8_never : Cond.instanceMethod yX8_never ∈ tg_gG := tg_mem (List.mem_of_getElem? (i := 1182) (by decide +kernel)) (by decide +kernel)
theorem ws_X8_never : Cond.selects yX8_never.cls yX8_never yX8_never ∈ tg_gG := tg_mem (List.mem_of_getElem? (i := 1183) (by decide +kernel)) (by decide +kernel)
theorem wf_X8_88 : Cond.fieldLink RX8 88 (TX8 40).1 (TX8 40).2.1 (TX8 40).2.2.1 ∈ tg_gG := tg_mem (List.mem_of_getElem? (i := 814) (by decide +kernel)) (by decide +kernel)
theorem wc_X8_weightsBy : Cond.code yX8_weightsBy cX8_weightsBy 6 (some .int) ∈ tg_gG := tg_mem (List.mem_of_getElem? (i := 1200) (by decide +kernel)) (by decide +kernel)
theorem wv_X8_weightsBy : Cond.instanceMethod yX8_weightsBy ∈ tg_gG := tg_mem (List.mem_of_getElem? (i := 1199) (by decide +kernel)) (by decide +kernel)
theorem ws_X8_weightsBy : Cond.selects yX8_weightsBy.cls yX8_weightsBy yX8_weightsBy ∈ tg_gG := tg_mem (List.mem_of_getElem? (i := 63) (by decide +kernel)) (by decide +kernel)
theorem wc_X8_sortsBy : Cond.code yX8_sortsBy cX8_sortsBy 5 (some .int) ∈ tg_gG := tg_mem (List.mem_of_getElem? (i := 1204) (by decide +kernel)) (by decide +kernel)
theorem wv_X8_sortsBy : Cond.instanceMethod yX8_sortsBy ∈ tg_gG := tg_mem (List.mem_of_getElem? (i := 1203) (by decide +kernel)) (by decide +kernel)
theorem ws_X8_sortsBy : Cond.selects yX8_sortsBy.cls yX8_sortsBy yX8_sortsBy ∈ tg_gG := tg_mem (List.mem_of_getElem? (i := 64) (by decide +kernel)) (by decide +kernel)
theorem wm_X8_306 : Cond.methodLink RX8 306 yX8_sortsBy ∈ tg_gG := tg_mem (List.mem_of_getElem? (i := 1201) (by decide +kernel)) (by decide +kernel)
theorem wm_X8_303 : Cond.methodLink RX8 303 yX8_weightsBy ∈ tg_gG := tg_mem (List.mem_of_getElem? (i := 1197) (by decide +kernel)) (by decide +kernel)
theorem wc_X8_was : Cond.code yX8_was cX8_was 3 (some .int) ∈ tg_gG := tg_mem (List.mem_of_getElem? (i := 1196) (by decide +kernel)) (by decide +kernel)
theorem wv_X8_was : Cond.instanceMethod yX8_was ∈ tg_gG := tg_mem (List.mem_of_getElem? (i := 1194) (by decide +kernel)) (by decide +kernel)
theorem ws_X8_was : Cond.selects yX8_was.cls yX8_was yX8_was ∈ tg_gG := tg_mem (List.mem_of_getElem? (i := 1195) (by decide +kernel)) (by decide +kernel)
theorem wc_X8_askOf : Cond.code yX8_askOf cX8_askOf 10 (some .int) ∈ tg_gG := tg_mem (List.mem_of_getElem? (i := 1212) (by decide +kernel)) (by decide +kernel)
theorem wv_X8_askOf : Cond.instanceMethod yX8_askOf ∈ tg_gG := tg_mem (List.mem_of_getElem? (i := 1211) (by decide +kernel)) (by decide +kernel)
theorem ws_X8_askOf : Cond.selects yX8_askOf.cls yX8_askOf yX8_askOf ∈ tg_gG := tg_mem (List.mem_of_getElem? (i := 65) (by decide +kernel)) (by decide +kernel)
theorem wm_X8_309 : Cond.methodLink RX8 309 yX8_askOf ∈ tg_gG := tg_mem (List.mem_of_getElem? (i := 1209) (by decide +kernel)) (by decide +kernel)
theorem wc_X8_ask : Cond.code yX8_ask cX8_ask 2 (some .int) ∈ tg_gG := tg_mem (List.mem_of_getElem? (i := 1208) (by decide +kernel)) (by decide +kernel)
theorem wv_X8_ask : Cond.instanceMethod yX8_ask ∈ tg_gG := tg_mem (List.mem_of_getElem? (i := 1206) (by decide +kernel)) (by decide +kernel)
theorem ws_X8_ask : Cond.selects yX8_ask.cls yX8_ask yX8_ask ∈ tg_gG := tg_mem (List.mem_of_getElem? (i := 1207) (by decide +kernel)) (by decide +kernel)
theorem wm_X8_312 : Cond.methodLink RX8 312 yX8_lowest ∈ tg_gG := tg_mem (List.mem_of_getElem? (i := 1221) (by decide +kernel)) (by decide +kernel)
theorem wc_X8_chanceOf : Cond.code yX8_chanceOf cX8_chanceOf 10 (some .long) ∈ tg_gG := tg_mem (List.mem_of_getElem? (i := 1220) (by decide +kernel)) (by decide +kernel)
theorem wv_X8_chanceOf : Cond.instanceMethod yX8_chanceOf ∈ tg_gG := tg_mem (List.mem_of_getElem? (i := 1219) (by decide +kernel)) (by decide +kernel)
theorem ws_X8_chanceOf : Cond.selects yX8_chanceOf.cls yX8_chanceOf yX8_chanceOf ∈ tg_gG := tg_mem (List.mem_of_getElem? (i := 66) (by decide +kernel)) (by decide +kernel)
theorem wm_X8_320 : Cond.methodLink RX8 320 yX8_no ∈ tg_gG := tg_mem (List.mem_of_getElem? (i := 1224) (by decide +kernel)) (by decide +kernel)
theorem wm_X8_316 : Cond.methodLink RX8 316 yX8_chanceOf ∈ tg_gG := tg_mem (List.mem_of_getElem? (i := 1217) (by decide +kernel)) (by decide +kernel)
theorem wc_X8_chance : Cond.code yX8_chance cX8_chance 4 (some .long) ∈ tg_gG := tg_mem (List.mem_of_getElem? (i := 1216) (by decide +kernel)) (by decide +kernel)
theorem wv_X8_chance : Cond.instanceMethod yX8_chance ∈ tg_gG := tg_mem (List.mem_of_getElem? (i := 1214) (by decide +kernel)) (by decide +kernel)
theorem ws_X8_chance : Cond.selects yX8_chance.cls yX8_chance yX8_chance ∈ tg_gG := tg_mem (List.mem_of_getElem? (i := 1215) (by decide +kernel)) (by decide +kernel)
theorem wk_X8_324 : Cond.constant RX8 324 (1103515245) ∈ tg_gG := tg_mem (List.mem_of_getElem? (i := 1236) (by decide +kernel)) (by decide +kernel)
theorem wc_X8_yearsOf : Cond.code yX8_yearsOf cX8_yearsOf 6 (some .int) ∈ tg_gG := tg_mem (List.mem_of_getElem? (i := 1235) (by decide +kernel)) (by decide +kernel)
theorem wv_X8_yearsOf : Cond.instanceMethod yX8_yearsOf ∈ tg_gG := tg_mem (List.mem_of_getElem? (i := 1234) (by decide +kernel)) (by decide +kernel)
theorem ws_X8_yearsOf : Cond.selects yX8_yearsOf.cls yX8_yearsOf yX8_yearsOf ∈ tg_gG := tg_mem (List.mem_of_getElem? (i := 67) (by decide +kernel)) (by decide +kernel)
theorem wm_X8_325 : Cond.methodLink RX8 325 yX8_yearsOf ∈ tg_gG := tg_mem (List.mem_of_getElem? (i := 1232) (by decide +kernel)) (by decide +kernel)
theorem wc_X8_years : Cond.code yX8_years cX8_years 4 (some .int) ∈ tg_gG := tg_mem (List.mem_of_getElem? (i := 1231) (by decide +kernel)) (by decide +kernel)
theorem wv_X8_years : Cond.instanceMethod yX8_years ∈ tg_gG := tg_mem (List.mem_of_getElem? (i := 1229) (by decide +kernel)) (by decide +kernel)
theorem ws_X8_years : Cond.selects yX8_years.cls yX8_years yX8_years ∈ tg_gG := tg_mem (List.mem_of_getElem? (i := 1230) (by decide +kernel)) (by decide +kernel)
theorem wf_X8_95 : Cond.fieldLink RX8 95 (TX8 42).1 (TX8 42).2.1 (TX8 42).2.2.1 ∈ tg_gG := tg_mem (List.mem_of_getElem? (i := 816) (by decide +kernel)) (by decide +kernel)
theorem wc_X8_sheet : Cond.code yX8_sheet cX8_sheet 5 (some .int) ∈ tg_gG := tg_mem (List.mem_of_getElem? (i := 1240) (by decide +kernel)) (by decide +kernel)
theorem wv_X8_sheet : Cond.instanceMethod yX8_sheet ∈ tg_gG := tg_mem (List.mem_of_getElem? (i := 1238) (by decide +kernel)) (by decide +kernel)
theorem ws_X8_sheet : Cond.selects yX8_sheet.cls yX8_sheet yX8_sheet ∈ tg_gG := tg_mem (List.mem_of_getElem? (i := 1239) (by decide +kernel)) (by decide +kernel)
theorem wc_X8_lose : Cond.code yX8_lose cX8_lose 2 (some .int) ∈ tg_gG := tg_mem (List.mem_of_getElem? (i := 1244) (by decide +kernel)) (by decide +kernel)
theorem wv_X8_lose : Cond.instanceMethod yX8_lose ∈ tg_gG := tg_mem (List.mem_of_getElem? (i := 1242) (by decide +kernel)) (by decide +kernel)
theorem ws_X8_lose : Cond.selects yX8_lose.cls yX8_lose yX8_lose ∈ tg_gG := tg_mem (List.mem_of_getElem? (i := 1243) (by decide +kernel)) (by decide +kernel)
theorem wc_X8_lacks : Cond.code yX8_lacks cX8_lacks 4 (some .int) ∈ tg_gG := tg_mem (List.mem_of_getElem? (i := 1252) (by decide +kernel)) (by decide +kernel)
theorem wv_X8_lacks : Cond.instanceMethod yX8_lacks ∈ tg_gG := tg_mem (List.mem_of_getElem? (i := 1251) (by decide +kernel)) (by decide +kernel)
theorem ws_X8_lacks : Cond.selects yX8_lacks.cls yX8_lacks yX8_lacks ∈ tg_gG := tg_mem (List.mem_of_getElem? (i := 68) (by decide +kernel)) (by decide +kernel)
theorem wc_X8_keep : Cond.code yX8_keep cX8_keep 4 none ∈ tg_gG := tg_mem (List.mem_of_getElem? (i := 1256) (by decide +kernel)) (by decide +kernel)
theorem wv_X8_keep : Cond.instanceMethod yX8_keep ∈ tg_gG := tg_mem (List.mem_of_getElem? (i := 1255) (by decide +kernel)) (by decide +kernel)
theorem ws_X8_keep : Cond.selects yX8_keep.cls yX8_keep yX8_keep ∈ tg_gG := tg_mem (List.mem_of_getElem? (i := 69) (by decide +kernel)) (by decide +kernel)
theorem wm_X8_331 : Cond.methodLink RX8 331 yX8_lacks ∈ tg_gG := tg_mem (List.mem_of_getElem? (i := 1249) (by decide +kernel)) (by decide +kernel)
theorem wm_X8_334 : Cond.methodLink RX8 334 yX8_keep ∈ tg_gG := tg_mem (List.mem_of_getElem? (i := 1253) (by decide +kernel)) (by decide +kernel)
theorem wc_X8_put : Cond.code yX8_put cX8_put 6 (some .int) ∈ tg_gG := tg_mem (List.mem_of_getElem? (i := 1248) (by decide +kernel)) (by decide +kernel)
theorem wv_X8_put : Cond.instanceMethod yX8_put ∈ tg_gG := tg_mem (List.mem_of_getElem? (i := 1246) (by decide +kernel)) (by decide +kernel)
theorem ws_X8_put : Cond.selects yX8_put.cls yX8_put yX8_put ∈ tg_gG := tg_mem (List.mem_of_getElem? (i := 1247) (by decide +kernel)) (by decide +kernel)
theorem wk_X8_338 : Cond.constant RX8 338 (-2147483648) ∈ tg_gG := tg_mem (List.mem_of_getElem? (i := 1261) (by decide +kernel)) (by decide +kernel)
theorem wc_X8_get : Cond.code yX8_get cX8_get 5 (some .int) ∈ tg_gG := tg_mem (List.mem_of_getElem? (i := 1260) (by decide +kernel)) (by decide +kernel)
theorem wv_X8_get : Cond.instanceMethod yX8_get ∈ tg_gG := tg_mem (List.mem_of_getElem? (i := 1258) (by decide +kernel)) (by decide +kernel)
theorem ws_X8_get : Cond.selects yX8_get.cls yX8_get yX8_get ∈ tg_gG := tg_mem (List.mem_of_getElem? (i := 1259) (by decide +kernel)) (by decide +kernel)
theorem wf_X8_104 : Cond.fieldLink RX8 104 (TX8 45).1 (TX8 45).2.1 (TX8 45).2.2.1 ∈ tg_gG := tg_mem (List.mem_of_getElem? (i := 819) (by decide +kernel)) (by decide +kernel)
theorem wc_X8_copy : Cond.code yX8_copy cX8_copy 7 (some .int) ∈ tg_gG := tg_mem (List.mem_of_getElem? (i := 1265) (by decide +kernel)) (by decide +kernel)
theorem wv_X8_copy : Cond.instanceMethod yX8_copy ∈ tg_gG := tg_mem (List.mem_of_getElem? (i := 1263) (by decide +kernel)) (by decide +kernel)
theorem ws_X8_copy : Cond.selects yX8_copy.cls yX8_copy yX8_copy ∈ tg_gG := tg_mem (List.mem_of_getElem? (i := 1264) (by decide +kernel)) (by decide +kernel)
theorem wc_X8_write : Cond.code yX8_write cX8_write 3 (some .int) ∈ tg_gG := tg_mem (List.mem_of_getElem? (i := 1269) (by decide +kernel)) (by decide +kernel)
theorem wv_X8_write : Cond.instanceMethod yX8_write ∈ tg_gG := tg_mem (List.mem_of_getElem? (i := 1267) (by decide +kernel)) (by decide +kernel)
theorem ws_X8_write : Cond.selects yX8_write.cls yX8_write yX8_write ∈ tg_gG := tg_mem (List.mem_of_getElem? (i := 1268) (by decide +kernel)) (by decide +kernel)
theorem wc_X8_tellOf : Cond.code yX8_tellOf cX8_tellOf 2 (some .int) ∈ tg_gG := tg_mem (List.mem_of_getElem? (i := 1277) (by decide +kernel)) (by decide +kernel)
theorem wv_X8_tellOf : Cond.instanceMethod yX8_tellOf ∈ tg_gG := tg_mem (List.mem_of_getElem? (i := 1276) (by decide +kernel)) (by decide +kernel)
theorem ws_X8_tellOf : Cond.selects yX8_tellOf.cls yX8_tellOf yX8_tellOf ∈ tg_gG := tg_mem (List.mem_of_getElem? (i := 70) (by decide +kernel)) (by decide +kernel)
theorem wm_X8_339 : Cond.methodLink RX8 339 yX8_tellOf ∈ tg_gG := tg_mem (List.mem_of_getElem? (i := 1274) (by decide +kernel)) (by decide +kernel)
theorem wc_X8_count : Cond.code yX8_count cX8_count 2 (some .int) ∈ tg_gG := tg_mem (List.mem_of_getElem? (i := 1273) (by decide +kernel)) (by decide +kernel)
theorem wv_X8_count : Cond.instanceMethod yX8_count ∈ tg_gG := tg_mem (List.mem_of_getElem? (i := 1271) (by decide +kernel)) (by decide +kernel)
theorem ws_X8_count : Cond.selects yX8_count.cls yX8_count yX8_count ∈ tg_gG := tg_mem (List.mem_of_getElem? (i := 1272) (by decide +kernel)) (by decide +kernel)
theorem wk_X8_342 : Cond.constantLong RX8 342 (31) ∈ tg_gG := tg_mem (List.mem_of_getElem? (i := 1283) (by decide +kernel)) (by decide +kernel)
theorem wc_X8_beatDigest : Cond.code yX8_beatDigest cX8_beatDigest 7 (some .long) ∈ tg_gG := tg_mem (List.mem_of_getElem? (i := 1292) (by decide +kernel)) (by decide +kernel)
theorem wv_X8_beatDigest : Cond.instanceMethod yX8_beatDigest ∈ tg_gG := tg_mem (List.mem_of_getElem? (i := 1291) (by decide +kernel)) (by decide +kernel)
theorem ws_X8_beatDigest : Cond.selects yX8_beatDigest.cls yX8_beatDigest yX8_beatDigest ∈ tg_gG := tg_mem (List.mem_of_getElem? (i := 72) (by decide +kernel)) (by decide +kernel)
theorem wm_X8_344 : Cond.methodLink RX8 344 yX8_beatDigest ∈ tg_gG := tg_mem (List.mem_of_getElem? (i := 1289) (by decide +kernel)) (by decide +kernel)
theorem wc_X8_pullerDigest : Cond.code yX8_pullerDigest cX8_pullerDigest 7 (some .long) ∈ tg_gG := tg_mem (List.mem_of_getElem? (i := 1288) (by decide +kernel)) (by decide +kernel)
theorem wv_X8_pullerDigest : Cond.instanceMethod yX8_pullerDigest ∈ tg_gG := tg_mem (List.mem_of_getElem? (i := 1287) (by decide +kernel)) (by decide +kernel)
theorem ws_X8_pullerDigest : Cond.selects yX8_pullerDigest.cls yX8_pullerDigest yX8_pullerDigest ∈ tg_gG := tg_mem (List.mem_of_getElem? (i := 71) (by decide +kernel)) (by decide +kernel)
theorem wc_X8_teamDigest : Cond.code yX8_teamDigest cX8_teamDigest 7 (some .long) ∈ tg_gG := tg_mem (List.mem_of_getElem? (i := 1296) (by decide +kernel)) (by decide +kernel)
theorem wv_X8_teamDigest : Cond.instanceMethod yX8_teamDigest ∈ tg_gG := tg_mem (List.mem_of_getElem? (i := 1295) (by decide +kernel)) (by decide +kernel)
theorem ws_X8_teamDigest : Cond.selects yX8_teamDigest.cls yX8_teamDigest yX8_teamDigest ∈ tg_gG := tg_mem (List.mem_of_getElem? (i := 73) (by decide +kernel)) (by decide +kernel)
theorem wk_X8_348 : Cond.constantLong RX8 348 (17) ∈ tg_gG := tg_mem (List.mem_of_getElem? (i := 1282) (by decide +kernel)) (by decide +kernel)
theorem wm_X8_350 : Cond.methodLink RX8 350 yX8_count ∈ tg_gG := tg_mem (List.mem_of_getElem? (i := 1284) (by decide +kernel)) (by decide +kernel)
theorem wm_X8_357 : Cond.methodLink RX8 357 yX8_teamDigest ∈ tg_gG := tg_mem (List.mem_of_getElem? (i := 1293) (by decide +kernel)) (by decide +kernel)
theorem wm_X8_353 : Cond.methodLink RX8 353 yX8_pullerDigest ∈ tg_gG := tg_mem (List.mem_of_getElem? (i := 1285) (by decide +kernel)) (by decide +kernel)
theorem wc_X8_digest : Cond.code yX8_digest cX8_digest 5 (some .long) ∈ tg_gG := tg_mem (List.mem_of_getElem? (i := 1281) (by decide +kernel)) (by decide +kernel)
theorem wv_X8_digest : Cond.instanceMethod yX8_digest ∈ tg_gG := tg_mem (List.mem_of_getElem? (i := 1279) (by decide +kernel)) (by decide +kernel)
theorem ws_X8_digest : Cond.selects yX8_digest.cls yX8_digest yX8_digest ∈ tg_gG := tg_mem (List.mem_of_getElem? (i := 1280) (by decide +kernel)) (by decide +kernel)
theorem yy_X0_startFor : tg_Y0 yX0_startFor cX0_startFor 2 none 1 := ⟨wc_X0_startFor, wi_X0, by decide +kernel, by decide +kernel, by decide +kernel⟩
theorem yy_X0_offer : tg_Y0 yX0_offer cX0_offer 5 none 3 := ⟨wc_X0_offer, wi_X0, by decide +kernel, by decide +kernel, by decide +kernel⟩
theorem yy_X4_append : tg_Y0 yX4_append cX4_append 3 (some .int) 2 := ⟨wc_X4_append, wi_X4, by decide +kernel, by decide +kernel, by decide +kernel⟩
theorem yy_X4_fit : tg_Y0 yX4_fit cX4_fit 3 (some .boolean) 1 := ⟨wc_X4_fit, wi_X4, by decide +kernel, by decide +kernel, by decide +kernel⟩
theorem yy_X5_isLost : tg_Y0 yX5_isLost cX5_isLost 2 (some .boolean) 1 := ⟨wc_X5_isLost, wi_X5, by decide +kernel, by decide +kernel, by decide +kernel⟩
theorem yy_X5_size : tg_Y0 yX5_size cX5_size 2 (some .int) 1 := ⟨wc_X5_size, wi_X5, by decide +kernel, by decide +kernel, by decide +kernel⟩
theorem yy_X5_renew : tg_Y0 yX5_renew cX5_renew 5 none 3 := ⟨wc_X5_renew, wi_X5, by decide +kernel, by decide +kernel, by decide +kernel⟩
theorem yy_X5_drop : tg_Y0 yX5_drop cX5_drop 3 (some .int) 1 := ⟨wc_X5_drop, wi_X5, by decide +kernel, by decide +kernel, by decide +kernel⟩
theorem yy_X7_isBelow : tg_Y0 yX7_isBelow cX7_isBelow 2 (some .boolean) 2 := ⟨wc_X7_isBelow, wi_X7, by decide +kernel, by decide +kernel, by decide +kernel⟩
theorem yy_X5_whatIsWrong : tg_Y0 yX5_whatIsWrong cX5_whatIsWrong 4 (some .int) 3 := ⟨wc_X5_whatIsWrong, wi_X5, by decide +kernel, by decide +kernel, by decide +kernel⟩
theorem yy_X5_areAlike : tg_Y0 yX5_areAlike cX5_areAlike 3 (some .boolean) 2 := ⟨wc_X5_areAlike, wi_X5, by decide +kernel, by decide +kernel, by decide +kernel⟩
theorem yy_X5_holds : tg_Y0 yX5_holds cX5_holds 4 (some .boolean) 3 := ⟨wc_X5_holds, wi_X5, by decide +kernel, by decide +kernel, by decide +kernel⟩
theorem yy_X5_item : tg_Y0 yX5_item cX5_item 3 (some .int) 2 := ⟨wc_X5_item, wi_X5, by decide +kernel, by decide +kernel, by decide +kernel⟩
theorem yy_X5_store : tg_Y0 yX5_store cX5_store 5 none 3 := ⟨wc_X5_store, wi_X5, by decide +kernel, by decide +kernel, by decide +kernel⟩
theorem yy_X5_move : tg_Y0 yX5_move cX5_move 6 none 5 := ⟨wc_X5_move, wi_X5, by decide +kernel, by decide +kernel, by decide +kernel⟩
theorem yy_X6_isFull : tg_Y0 yX6_isFull cX6_isFull 2 (some .boolean) 1 := ⟨wc_X6_isFull, wi_X6, by decide +kernel, by decide +kernel, by decide +kernel⟩
theorem yy_X6_append : tg_Y0 yX6_append cX6_append 3 (some .int) 2 := ⟨wc_X6_append, wi_X6, by decide +kernel, by decide +kernel, by decide +kernel⟩
theorem yy_X6_clear : tg_Y0 yX6_clear cX6_clear 3 (some .int) 1 := ⟨wc_X6_clear, wi_X6, by decide +kernel, by decide +kernel, by decide +kernel⟩
theorem yy_X6_cutLast : tg_Y0 yX6_cutLast cX6_cutLast 2 (some .int) 1 := ⟨wc_X6_cutLast, wi_X6, by decide +kernel, by decide +kernel, by decide +kernel⟩
theorem yy_X6_length : tg_Y0 yX6_length cX6_length 2 (some .int) 1 := ⟨wc_X6_length, wi_X6, by decide +kernel, by decide +kernel, by decide +kernel⟩
theorem yy_X6_lengthOfAll : tg_Y0 yX6_lengthOfAll cX6_lengthOfAll 3 (some .int) 0 := ⟨wc_X6_lengthOfAll, wi_X6, by decide +kernel, by decide +kernel, by decide +kernel⟩
theorem yy_X6_byteAt : tg_Y0 yX6_byteAt cX6_byteAt 3 (some .int) 2 := ⟨wc_X6_byteAt, wi_X6, by decide +kernel, by decide +kernel, by decide +kernel⟩
theorem yy_X6_callOf : tg_Y0 yX6_callOf cX6_callOf 1 (some .int) 1 := ⟨wc_X6_callOf, wi_X6, by decide +kernel, by decide +kernel, by decide +kernel⟩
theorem yy_X6_teamGoesOn : tg_Y0 yX6_teamGoesOn cX6_teamGoesOn 2 (some .boolean) 2 := ⟨wc_X6_teamGoesOn, wi_X6, by decide +kernel, by decide +kernel, by decide +kernel⟩
theorem yy_X6_firstFault : tg_Y0 yX6_firstFault cX6_firstFault 5 (some .int) 1 := ⟨wc_X6_firstFault, wi_X6, by decide +kernel, by decide +kernel, by decide +kernel⟩
theorem yy_X6_soundLength : tg_Y0 yX6_soundLength cX6_soundLength 2 (some .int) 1 := ⟨wc_X6_soundLength, wi_X6, by decide +kernel, by decide +kernel, by decide +kernel⟩
theorem yy_X6_sortOf : tg_Y0 yX6_sortOf cX6_sortOf 1 (some .int) 1 := ⟨wc_X6_sortOf, wi_X6, by decide +kernel, by decide +kernel, by decide +kernel⟩
theorem yy_X1_takeCalls : tg_Y0 yX1_takeCalls cX1_takeCalls 6 none 2 := ⟨wc_X1_takeCalls, wi_X1, by decide +kernel, by decide +kernel, by decide +kernel⟩
theorem yy_X1_takeTeam : tg_Y0 yX1_takeTeam cX1_takeTeam 5 none 2 := ⟨wc_X1_takeTeam, wi_X1, by decide +kernel, by decide +kernel, by decide +kernel⟩
theorem yy_X1_takeTexts : tg_Y0 yX1_takeTexts cX1_takeTexts 3 none 1 := ⟨wc_X1_takeTexts, wi_X1, by decide +kernel, by decide +kernel, by decide +kernel⟩
theorem yy_X3_happens : tg_Y0 yX3_happens cX3_happens 3 (some .boolean) 2 := ⟨wc_X3_happens, wi_X3, by decide +kernel, by decide +kernel, by decide +kernel⟩
theorem yy_X2_meetEvents : tg_Y0 yX2_meetEvents cX2_meetEvents 5 none 2 := ⟨wc_X2_meetEvents, wi_X2, by decide +kernel, by decide +kernel, by decide +kernel⟩
theorem yy_X2_moveRope : tg_Y0 yX2_moveRope cX2_moveRope 3 none 2 := ⟨wc_X2_moveRope, wi_X2, by decide +kernel, by decide +kernel, by decide +kernel⟩
theorem yy_X2_forceOf : tg_Y0 yX2_forceOf cX2_forceOf 8 (some .int) 3 := ⟨wc_X2_forceOf, wi_X2, by decide +kernel, by decide +kernel, by decide +kernel⟩
theorem yy_X2_pullOfTeam : tg_Y0 yX2_pullOfTeam cX2_pullOfTeam 10 (some .int) 3 := ⟨wc_X2_pullOfTeam, wi_X2, by decide +kernel, by decide +kernel, by decide +kernel⟩
theorem yy_X2_standStill : tg_Y0 yX2_standStill cX2_standStill 3 none 1 := ⟨wc_X2_standStill, wi_X2, by decide +kernel, by decide +kernel, by decide +kernel⟩
theorem yy_X2_play : tg_Y0 yX2_play cX2_play 6 (some .int) 1 := ⟨wc_X2_play, wi_X2, by decide +kernel, by decide +kernel, by decide +kernel⟩
theorem yy_X7_playTold : tg_Y0 yX7_playTold cX7_playTold 1 none 0 := ⟨wc_X7_playTold, wi_X7, by decide +kernel, by decide +kernel, by decide +kernel⟩
theorem yy_X7_playTexts : tg_Y0 yX7_playTexts cX7_playTexts 1 none 0 := ⟨wc_X7_playTexts, wi_X7, by decide +kernel, by decide +kernel, by decide +kernel⟩
theorem yy_X7_type : tg_Y0 yX7_type cX7_type 4 (some .int) 2 := ⟨wc_X7_type, wi_X7, by decide +kernel, by decide +kernel, by decide +kernel⟩
theorem yy_X7_wipe : tg_Y0 yX7_wipe cX7_wipe 3 (some .int) 1 := ⟨wc_X7_wipe, wi_X7, by decide +kernel, by decide +kernel, by decide +kernel⟩
theorem yy_X7_undo : tg_Y0 yX7_undo cX7_undo 3 (some .int) 1 := ⟨wc_X7_undo, wi_X7, by decide +kernel, by decide +kernel, by decide +kernel⟩
theorem yy_X7_fault : tg_Y0 yX7_fault cX7_fault 2 (some .int) 1 := ⟨wc_X7_fault, wi_X7, by decide +kernel, by decide +kernel, by decide +kernel⟩
theorem yy_X7_isPuller : tg_Y0 yX7_isPuller cX7_isPuller 2 (some .boolean) 1 := ⟨wc_X7_isPuller, wi_X7, by decide +kernel, by decide +kernel, by decide +kernel⟩
theorem yy_X7_puller : tg_Y0 yX7_puller cX7_puller 3 (some .int) 2 := ⟨wc_X7_puller, wi_X7, by decide +kernel, by decide +kernel, by decide +kernel⟩
theorem yy_X7_call : tg_Y0 yX7_call cX7_call 3 (some .int) 2 := ⟨wc_X7_call, wi_X7, by decide +kernel, by decide +kernel, by decide +kernel⟩
theorem yy_X7_mud : tg_Y0 yX7_mud cX7_mud 3 (some .int) 1 := ⟨wc_X7_mud, wi_X7, by decide +kernel, by decide +kernel, by decide +kernel⟩
theorem yy_X3_append : tg_Y0 yX3_append cX3_append 4 (some .int) 3 := ⟨wc_X3_append, wi_X3, by decide +kernel, by decide +kernel, by decide +kernel⟩
theorem yy_X3_mayBe : tg_Y0 yX3_mayBe cX3_mayBe 3 (some .boolean) 3 := ⟨wc_X3_mayBe, wi_X3, by decide +kernel, by decide +kernel, by decide +kernel⟩
theorem yy_X7_event : tg_Y0 yX7_event cX7_event 5 (some .int) 3 := ⟨wc_X7_event, wi_X7, by decide +kernel, by decide +kernel, by decide +kernel⟩
theorem yy_X3_cutLast : tg_Y0 yX3_cutLast cX3_cutLast 1 (some .int) 0 := ⟨wc_X3_cutLast, wi_X3, by decide +kernel, by decide +kernel, by decide +kernel⟩
theorem yy_X7_back : tg_Y0 yX7_back cX7_back 2 (some .int) 0 := ⟨wc_X7_back, wi_X7, by decide +kernel, by decide +kernel, by decide +kernel⟩
theorem yy_X7_found : tg_Y0 yX7_found cX7_found 2 (some .int) 1 := ⟨wc_X7_found, wi_X7, by decide +kernel, by decide +kernel, by decide +kernel⟩
theorem yy_X7_read : tg_Y0 yX7_read cX7_read 5 (some .int) 1 := ⟨wc_X7_read, wi_X7, by decide +kernel, by decide +kernel, by decide +kernel⟩
theorem yy_X7_rope : tg_Y0 yX7_rope cX7_rope 3 (some .int) 2 := ⟨wc_X7_rope, wi_X7, by decide +kernel, by decide +kernel, by decide +kernel⟩
theorem yy_X7_at : tg_Y0 yX7_at cX7_at 5 (some .int) 3 := ⟨wc_X7_at, wi_X7, by decide +kernel, by decide +kernel, by decide +kernel⟩
theorem yy_X7_won : tg_Y0 yX7_won cX7_won 2 (some .int) 1 := ⟨wc_X7_won, wi_X7, by decide +kernel, by decide +kernel, by decide +kernel⟩
theorem yy_X7_furthest : tg_Y0 yX7_furthest cX7_furthest 5 (some .int) 1 := ⟨wc_X7_furthest, wi_X7, by decide +kernel, by decide +kernel, by decide +kernel⟩
theorem yy_X7_pulledInAll : tg_Y0 yX7_pulledInAll cX7_pulledInAll 4 (some .int) 1 := ⟨wc_X7_pulledInAll, wi_X7, by decide +kernel, by decide +kernel, by decide +kernel⟩
theorem yy_X7_done : tg_Y0 yX7_done cX7_done 2 (some .int) 1 := ⟨wc_X7_done, wi_X7, by decide +kernel, by decide +kernel, by decide +kernel⟩
theorem yy_X7_spent : tg_Y0 yX7_spent cX7_spent 3 (some .int) 0 := ⟨wc_X7_spent, wi_X7, by decide +kernel, by decide +kernel, by decide +kernel⟩
theorem yy_X7_best : tg_Y0 yX7_best cX7_best 5 (some .int) 0 := ⟨wc_X7_best, wi_X7, by decide +kernel, by decide +kernel, by decide +kernel⟩
theorem yy_X7_level : tg_Y0 yX7_level cX7_level 4 (some .int) 0 := ⟨wc_X7_level, wi_X7, by decide +kernel, by decide +kernel, by decide +kernel⟩
theorem yy_X3_takeFrom : tg_Y0 yX3_takeFrom cX3_takeFrom 2 none 1 := ⟨wc_X3_takeFrom, wi_X3, by decide +kernel, by decide +kernel, by decide +kernel⟩
theorem yy_X1_becomeLike : tg_Y0 yX1_becomeLike cX1_becomeLike 3 none 1 := ⟨wc_X1_becomeLike, wi_X1, by decide +kernel, by decide +kernel, by decide +kernel⟩
theorem yy_X7_better : tg_Y0 yX7_better cX7_better 5 (some .int) 3 := ⟨wc_X7_better, wi_X7, by decide +kernel, by decide +kernel, by decide +kernel⟩
theorem yy_X7_chooseSwap : tg_Y0 yX7_chooseSwap cX7_chooseSwap 6 none 1 := ⟨wc_X7_chooseSwap, wi_X7, by decide +kernel, by decide +kernel, by decide +kernel⟩
theorem yy_X7_swap : tg_Y0 yX7_swap cX7_swap 3 (some .int) 2 := ⟨wc_X7_swap, wi_X7, by decide +kernel, by decide +kernel, by decide +kernel⟩
theorem yy_X1_leaveOut : tg_Y0 yX1_leaveOut cX1_leaveOut 3 none 2 := ⟨wc_X1_leaveOut, wi_X1, by decide +kernel, by decide +kernel, by decide +kernel⟩
theorem yy_X7_chooseOut : tg_Y0 yX7_chooseOut cX7_chooseOut 5 none 1 := ⟨wc_X7_chooseOut, wi_X7, by decide +kernel, by decide +kernel, by decide +kernel⟩
theorem yy_X7_out : tg_Y0 yX7_out cX7_out 3 (some .int) 2 := ⟨wc_X7_out, wi_X7, by decide +kernel, by decide +kernel, by decide +kernel⟩
theorem yy_X7_winnerWithout : tg_Y0 yX7_winnerWithout cX7_winnerWithout 2 (some .int) 1 := ⟨wc_X7_winnerWithout, wi_X7, by decide +kernel, by decide +kernel, by decide +kernel⟩
theorem yy_X7_chooseSpare : tg_Y0 yX7_chooseSpare cX7_chooseSpare 4 (some .int) 0 := ⟨wc_X7_chooseSpare, wi_X7, by decide +kernel, by decide +kernel, by decide +kernel⟩
theorem yy_X7_spare : tg_Y0 yX7_spare cX7_spare 3 (some .int) 1 := ⟨wc_X7_spare, wi_X7, by decide +kernel, by decide +kernel, by decide +kernel⟩
theorem yy_X7_seen : tg_Y0 yX7_seen cX7_seen 3 (some .int) 2 := ⟨wc_X7_seen, wi_X7, by decide +kernel, by decide +kernel, by decide +kernel⟩
theorem yy_X7_forget : tg_Y0 yX7_forget cX7_forget 2 (some .int) 0 := ⟨wc_X7_forget, wi_X7, by decide +kernel, by decide +kernel, by decide +kernel⟩
theorem yy_X7_never : tg_Y0 yX7_never cX7_never 3 (some .int) 0 := ⟨wc_X7_never, wi_X7, by decide +kernel, by decide +kernel, by decide +kernel⟩
theorem yy_X7_sortsThatFit : tg_Y0 yX7_sortsThatFit cX7_sortsThatFit 4 (some .int) 1 := ⟨wc_X7_sortsThatFit, wi_X7, by decide +kernel, by decide +kernel, by decide +kernel⟩
theorem yy_X7_weightsThatFit : tg_Y0 yX7_weightsThatFit cX7_weightsThatFit 5 (some .int) 1 := ⟨wc_X7_weightsThatFit, wi_X7, by decide +kernel, by decide +kernel, by decide +kernel⟩
theorem yy_X7_was : tg_Y0 yX7_was cX7_was 3 (some .int) 2 := ⟨wc_X7_was, wi_X7, by decide +kernel, by decide +kernel, by decide +kernel⟩
theorem yy_X7_greatestLikeness : tg_Y0 yX7_greatestLikeness cX7_greatestLikeness 8 (some .int) 2 := ⟨wc_X7_greatestLikeness, wi_X7, by decide +kernel, by decide +kernel, by decide +kernel⟩
theorem yy_X7_ask : tg_Y0 yX7_ask cX7_ask 7 (some .int) 1 := ⟨wc_X7_ask, wi_X7, by decide +kernel, by decide +kernel, by decide +kernel⟩
theorem yy_X7_refreshWinners : tg_Y0 yX7_refreshWinners cX7_refreshWinners 2 none 0 := ⟨wc_X7_refreshWinners, wi_X7, by decide +kernel, by decide +kernel, by decide +kernel⟩
theorem yy_X7_waysToMiss : tg_Y0 yX7_waysToMiss cX7_waysToMiss 6 (some .long) 2 := ⟨wc_X7_waysToMiss, wi_X7, by decide +kernel, by decide +kernel, by decide +kernel⟩
theorem yy_X7_waysToWin : tg_Y0 yX7_waysToWin cX7_waysToWin 6 (some .long) 2 := ⟨wc_X7_waysToWin, wi_X7, by decide +kernel, by decide +kernel, by decide +kernel⟩
theorem yy_X7_chance : tg_Y0 yX7_chance cX7_chance 10 (some .long) 3 := ⟨wc_X7_chance, wi_X7, by decide +kernel, by decide +kernel, by decide +kernel⟩
theorem yy_X7_years : tg_Y0 yX7_years cX7_years 6 (some .int) 3 := ⟨wc_X7_years, wi_X7, by decide +kernel, by decide +kernel, by decide +kernel⟩
theorem yy_X7_sheet : tg_Y0 yX7_sheet cX7_sheet 4 (some .int) 3 := ⟨wc_X7_sheet, wi_X7, by decide +kernel, by decide +kernel, by decide +kernel⟩
theorem yy_X7_lose : tg_Y0 yX7_lose cX7_lose 2 (some .int) 1 := ⟨wc_X7_lose, wi_X7, by decide +kernel, by decide +kernel, by decide +kernel⟩
theorem yy_X7_put : tg_Y0 yX7_put cX7_put 6 (some .int) 4 := ⟨wc_X7_put, wi_X7, by decide +kernel, by decide +kernel, by decide +kernel⟩
theorem yy_X7_get : tg_Y0 yX7_get cX7_get 5 (some .int) 3 := ⟨wc_X7_get, wi_X7, by decide +kernel, by decide +kernel, by decide +kernel⟩
theorem yy_X7_copy : tg_Y0 yX7_copy cX7_copy 6 (some .int) 5 := ⟨wc_X7_copy, wi_X7, by decide +kernel, by decide +kernel, by decide +kernel⟩
theorem yy_X7_write : tg_Y0 yX7_write cX7_write 4 (some .int) 1 := ⟨wc_X7_write, wi_X7, by decide +kernel, by decide +kernel, by decide +kernel⟩
theorem yy_X7_count : tg_Y0 yX7_count cX7_count 2 (some .int) 1 := ⟨wc_X7_count, wi_X7, by decide +kernel, by decide +kernel, by decide +kernel⟩
theorem yy_X7_withBeat : tg_Y0 yX7_withBeat cX7_withBeat 7 (some .long) 2 := ⟨wc_X7_withBeat, wi_X7, by decide +kernel, by decide +kernel, by decide +kernel⟩
theorem yy_X7_withPuller : tg_Y0 yX7_withPuller cX7_withPuller 10 (some .long) 2 := ⟨wc_X7_withPuller, wi_X7, by decide +kernel, by decide +kernel, by decide +kernel⟩
theorem yy_X7_withTeam : tg_Y0 yX7_withTeam cX7_withTeam 7 (some .long) 2 := ⟨wc_X7_withTeam, wi_X7, by decide +kernel, by decide +kernel, by decide +kernel⟩
theorem yy_X7_digest : tg_Y0 yX7_digest cX7_digest 4 (some .long) 0 := ⟨wc_X7_digest, wi_X7, by decide +kernel, by decide +kernel, by decide +kernel⟩
theorem yy_X8_in : tg_Y0 yX8_in cX8_in 3 (some .boolean) 3 := ⟨wc_X8_in, wi_X8, by decide +kernel, by decide +kernel, by decide +kernel⟩
theorem yy_X8_isIn : tg_Y0 yX8_isIn cX8_isIn 2 (some .boolean) 2 := ⟨wc_X8_isIn, wi_X8, by decide +kernel, by decide +kernel, by decide +kernel⟩
theorem yy_X8_no : tg_Y0 yX8_no cX8_no 1 (some .long) 1 := ⟨wc_X8_no, wi_X8, by decide +kernel, by decide +kernel, by decide +kernel⟩
theorem yy_X8_lowest : tg_Y0 yX8_lowest cX8_lowest 11 (some .long) 3 := ⟨wc_X8_lowest, wi_X8, by decide +kernel, by decide +kernel, by decide +kernel⟩
theorem yy_X8_isText : tg_Y0 yX8_isText cX8_isText 1 (some .boolean) 1 := ⟨wc_X8_isText, wi_X8, by decide +kernel, by decide +kernel, by decide +kernel⟩
theorem yy_X8_isBeat : tg_Y0 yX8_isBeat cX8_isBeat 1 (some .boolean) 1 := ⟨wc_X8_isBeat, wi_X8, by decide +kernel, by decide +kernel, by decide +kernel⟩
theorem yy_X8_isTwo : tg_Y0 yX8_isTwo cX8_isTwo 1 (some .boolean) 1 := ⟨wc_X8_isTwo, wi_X8, by decide +kernel, by decide +kernel, by decide +kernel⟩
theorem yy_X8_isThree : tg_Y0 yX8_isThree cX8_isThree 1 (some .boolean) 1 := ⟨wc_X8_isThree, wi_X8, by decide +kernel, by decide +kernel, by decide +kernel⟩
theorem yy_X8_type : tg_Y0 yX8_type cX8_type 3 (some .int) 2 := ⟨wc_X8_type, wi_X8, by decide +kernel, by decide +kernel, by decide +kernel⟩
theorem yy_X8_wipe : tg_Y0 yX8_wipe cX8_wipe 3 (some .int) 1 := ⟨wc_X8_wipe, wi_X8, by decide +kernel, by decide +kernel, by decide +kernel⟩
theorem yy_X8_undo : tg_Y0 yX8_undo cX8_undo 2 (some .int) 1 := ⟨wc_X8_undo, wi_X8, by decide +kernel, by decide +kernel, by decide +kernel⟩
theorem yy_X8_byteAt : tg_Y0 yX8_byteAt cX8_byteAt 3 (some .int) 2 := ⟨wc_X8_byteAt, wi_X8, by decide +kernel, by decide +kernel, by decide +kernel⟩
theorem yy_X8_readsPuller : tg_Y0 yX8_readsPuller cX8_readsPuller 8 (some .int) 3 := ⟨wc_X8_readsPuller, wi_X8, by decide +kernel, by decide +kernel, by decide +kernel⟩
theorem yy_X8_readsTeam : tg_Y0 yX8_readsTeam cX8_readsTeam 5 (some .int) 1 := ⟨wc_X8_readsTeam, wi_X8, by decide +kernel, by decide +kernel, by decide +kernel⟩
theorem yy_X8_callBy : tg_Y0 yX8_callBy cX8_callBy 1 (some .int) 1 := ⟨wc_X8_callBy, wi_X8, by decide +kernel, by decide +kernel, by decide +kernel⟩
theorem yy_X8_readsCalls : tg_Y0 yX8_readsCalls cX8_readsCalls 4 (some .int) 1 := ⟨wc_X8_readsCalls, wi_X8, by decide +kernel, by decide +kernel, by decide +kernel⟩
theorem yy_X8_faultOf : tg_Y0 yX8_faultOf cX8_faultOf 6 (some .int) 1 := ⟨wc_X8_faultOf, wi_X8, by decide +kernel, by decide +kernel, by decide +kernel⟩
theorem yy_X8_reads : tg_Y0 yX8_reads cX8_reads 2 none 0 := ⟨wc_X8_reads, wi_X8, by decide +kernel, by decide +kernel, by decide +kernel⟩
theorem yy_X8_fault : tg_Y0 yX8_fault cX8_fault 2 (some .int) 1 := ⟨wc_X8_fault, wi_X8, by decide +kernel, by decide +kernel, by decide +kernel⟩
theorem yy_X8_isThereOne : tg_Y0 yX8_isThereOne cX8_isThereOne 2 (some .boolean) 1 := ⟨wc_X8_isThereOne, wi_X8, by decide +kernel, by decide +kernel, by decide +kernel⟩
theorem yy_X8_isPuller : tg_Y0 yX8_isPuller cX8_isPuller 2 (some .boolean) 1 := ⟨wc_X8_isPuller, wi_X8, by decide +kernel, by decide +kernel, by decide +kernel⟩
theorem yy_X8_pullerOf : tg_Y0 yX8_pullerOf cX8_pullerOf 3 (some .int) 2 := ⟨wc_X8_pullerOf, wi_X8, by decide +kernel, by decide +kernel, by decide +kernel⟩
theorem yy_X8_puller : tg_Y0 yX8_puller cX8_puller 3 (some .int) 2 := ⟨wc_X8_puller, wi_X8, by decide +kernel, by decide +kernel, by decide +kernel⟩
theorem yy_X8_callOf : tg_Y0 yX8_callOf cX8_callOf 3 (some .int) 2 := ⟨wc_X8_callOf, wi_X8, by decide +kernel, by decide +kernel, by decide +kernel⟩
theorem yy_X8_call : tg_Y0 yX8_call cX8_call 3 (some .int) 2 := ⟨wc_X8_call, wi_X8, by decide +kernel, by decide +kernel, by decide +kernel⟩
theorem yy_X8_mud : tg_Y0 yX8_mud cX8_mud 3 (some .int) 1 := ⟨wc_X8_mud, wi_X8, by decide +kernel, by decide +kernel, by decide +kernel⟩
theorem yy_X8_event : tg_Y0 yX8_event cX8_event 4 (some .int) 3 := ⟨wc_X8_event, wi_X8, by decide +kernel, by decide +kernel, by decide +kernel⟩
theorem yy_X8_back : tg_Y0 yX8_back cX8_back 1 (some .int) 0 := ⟨wc_X8_back, wi_X8, by decide +kernel, by decide +kernel, by decide +kernel⟩
theorem yy_X8_isSheet : tg_Y0 yX8_isSheet cX8_isSheet 1 (some .boolean) 1 := ⟨wc_X8_isSheet, wi_X8, by decide +kernel, by decide +kernel, by decide +kernel⟩
theorem yy_X8_meets : tg_Y0 yX8_meets cX8_meets 2 (some .int) 1 := ⟨wc_X8_meets, wi_X8, by decide +kernel, by decide +kernel, by decide +kernel⟩
theorem yy_X8_read : tg_Y0 yX8_read cX8_read 4 (some .int) 1 := ⟨wc_X8_read, wi_X8, by decide +kernel, by decide +kernel, by decide +kernel⟩
theorem yy_X8_asTold : tg_Y0 yX8_asTold cX8_asTold 2 none 0 := ⟨wc_X8_asTold, wi_X8, by decide +kernel, by decide +kernel, by decide +kernel⟩
theorem yy_X8_isHere : tg_Y0 yX8_isHere cX8_isHere 2 (some .boolean) 1 := ⟨wc_X8_isHere, wi_X8, by decide +kernel, by decide +kernel, by decide +kernel⟩
theorem yy_X8_befalls : tg_Y0 yX8_befalls cX8_befalls 3 none 1 := ⟨wc_X8_befalls, wi_X8, by decide +kernel, by decide +kernel, by decide +kernel⟩
theorem yy_X8_strength : tg_Y0 yX8_strength cX8_strength 5 (some .int) 2 := ⟨wc_X8_strength, wi_X8, by decide +kernel, by decide +kernel, by decide +kernel⟩
theorem yy_X8_pullsOne : tg_Y0 yX8_pullsOne cX8_pullsOne 6 none 2 := ⟨wc_X8_pullsOne, wi_X8, by decide +kernel, by decide +kernel, by decide +kernel⟩
theorem yy_X8_goes : tg_Y0 yX8_goes cX8_goes 4 none 1 := ⟨wc_X8_goes, wi_X8, by decide +kernel, by decide +kernel, by decide +kernel⟩
theorem yy_X8_goesBy : tg_Y0 yX8_goesBy cX8_goesBy 3 none 1 := ⟨wc_X8_goesBy, wi_X8, by decide +kernel, by decide +kernel, by decide +kernel⟩
theorem yy_X8_runs : tg_Y0 yX8_runs cX8_runs 4 none 0 := ⟨wc_X8_runs, wi_X8, by decide +kernel, by decide +kernel, by decide +kernel⟩
theorem yy_X8_runsTold : tg_Y0 yX8_runsTold cX8_runsTold 1 none 0 := ⟨wc_X8_runsTold, wi_X8, by decide +kernel, by decide +kernel, by decide +kernel⟩
theorem yy_X8_ropeOf : tg_Y0 yX8_ropeOf cX8_ropeOf 3 (some .int) 2 := ⟨wc_X8_ropeOf, wi_X8, by decide +kernel, by decide +kernel, by decide +kernel⟩
theorem yy_X8_rope : tg_Y0 yX8_rope cX8_rope 3 (some .int) 2 := ⟨wc_X8_rope, wi_X8, by decide +kernel, by decide +kernel, by decide +kernel⟩
theorem yy_X8_atOf : tg_Y0 yX8_atOf cX8_atOf 4 (some .int) 3 := ⟨wc_X8_atOf, wi_X8, by decide +kernel, by decide +kernel, by decide +kernel⟩
theorem yy_X8_at : tg_Y0 yX8_at cX8_at 4 (some .int) 3 := ⟨wc_X8_at, wi_X8, by decide +kernel, by decide +kernel, by decide +kernel⟩
theorem yy_X8_wonOf : tg_Y0 yX8_wonOf cX8_wonOf 2 (some .int) 1 := ⟨wc_X8_wonOf, wi_X8, by decide +kernel, by decide +kernel, by decide +kernel⟩
theorem yy_X8_won : tg_Y0 yX8_won cX8_won 2 (some .int) 1 := ⟨wc_X8_won, wi_X8, by decide +kernel, by decide +kernel, by decide +kernel⟩
theorem yy_X8_furthestOf : tg_Y0 yX8_furthestOf cX8_furthestOf 5 (some .int) 1 := ⟨wc_X8_furthestOf, wi_X8, by decide +kernel, by decide +kernel, by decide +kernel⟩
theorem yy_X8_furthest : tg_Y0 yX8_furthest cX8_furthest 2 (some .int) 1 := ⟨wc_X8_furthest, wi_X8, by decide +kernel, by decide +kernel, by decide +kernel⟩
theorem yy_X8_doneOf : tg_Y0 yX8_doneOf cX8_doneOf 2 (some .int) 1 := ⟨wc_X8_doneOf, wi_X8, by decide +kernel, by decide +kernel, by decide +kernel⟩
theorem yy_X8_done : tg_Y0 yX8_done cX8_done 2 (some .int) 1 := ⟨wc_X8_done, wi_X8, by decide +kernel, by decide +kernel, by decide +kernel⟩
theorem yy_X8_spentOf : tg_Y0 yX8_spentOf cX8_spentOf 3 (some .int) 0 := ⟨wc_X8_spentOf, wi_X8, by decide +kernel, by decide +kernel, by decide +kernel⟩
theorem yy_X8_spent : tg_Y0 yX8_spent cX8_spent 1 (some .int) 0 := ⟨wc_X8_spent, wi_X8, by decide +kernel, by decide +kernel, by decide +kernel⟩
theorem yy_X8_bestOf : tg_Y0 yX8_bestOf cX8_bestOf 4 (some .int) 0 := ⟨wc_X8_bestOf, wi_X8, by decide +kernel, by decide +kernel, by decide +kernel⟩
theorem yy_X8_best : tg_Y0 yX8_best cX8_best 1 (some .int) 0 := ⟨wc_X8_best, wi_X8, by decide +kernel, by decide +kernel, by decide +kernel⟩
theorem yy_X8_levelOf : tg_Y0 yX8_levelOf cX8_levelOf 1 (some .int) 0 := ⟨wc_X8_levelOf, wi_X8, by decide +kernel, by decide +kernel, by decide +kernel⟩
theorem yy_X8_level : tg_Y0 yX8_level cX8_level 1 (some .int) 0 := ⟨wc_X8_level, wi_X8, by decide +kernel, by decide +kernel, by decide +kernel⟩
theorem yy_X8_starts : tg_Y0 yX8_starts cX8_starts 1 none 0 := ⟨wc_X8_starts, wi_X8, by decide +kernel, by decide +kernel, by decide +kernel⟩
theorem yy_X8_tries : tg_Y0 yX8_tries cX8_tries 4 none 2 := ⟨wc_X8_tries, wi_X8, by decide +kernel, by decide +kernel, by decide +kernel⟩
theorem yy_X8_betterOf : tg_Y0 yX8_betterOf cX8_betterOf 5 (some .int) 3 := ⟨wc_X8_betterOf, wi_X8, by decide +kernel, by decide +kernel, by decide +kernel⟩
theorem yy_X8_better : tg_Y0 yX8_better cX8_better 4 (some .int) 3 := ⟨wc_X8_better, wi_X8, by decide +kernel, by decide +kernel, by decide +kernel⟩
theorem yy_X8_swapOf : tg_Y0 yX8_swapOf cX8_swapOf 6 (some .int) 2 := ⟨wc_X8_swapOf, wi_X8, by decide +kernel, by decide +kernel, by decide +kernel⟩
theorem yy_X8_swap : tg_Y0 yX8_swap cX8_swap 3 (some .int) 2 := ⟨wc_X8_swap, wi_X8, by decide +kernel, by decide +kernel, by decide +kernel⟩
theorem yy_X8_outOf : tg_Y0 yX8_outOf cX8_outOf 4 (some .int) 2 := ⟨wc_X8_outOf, wi_X8, by decide +kernel, by decide +kernel, by decide +kernel⟩
theorem yy_X8_out : tg_Y0 yX8_out cX8_out 3 (some .int) 2 := ⟨wc_X8_out, wi_X8, by decide +kernel, by decide +kernel, by decide +kernel⟩
theorem yy_X8_isSpared : tg_Y0 yX8_isSpared cX8_isSpared 2 (some .boolean) 1 := ⟨wc_X8_isSpared, wi_X8, by decide +kernel, by decide +kernel, by decide +kernel⟩
theorem yy_X8_spareBy : tg_Y0 yX8_spareBy cX8_spareBy 3 (some .int) 0 := ⟨wc_X8_spareBy, wi_X8, by decide +kernel, by decide +kernel, by decide +kernel⟩
theorem yy_X8_ofRow : tg_Y0 yX8_ofRow cX8_ofRow 3 (some .int) 2 := ⟨wc_X8_ofRow, wi_X8, by decide +kernel, by decide +kernel, by decide +kernel⟩
theorem yy_X8_spare : tg_Y0 yX8_spare cX8_spare 2 (some .int) 1 := ⟨wc_X8_spare, wi_X8, by decide +kernel, by decide +kernel, by decide +kernel⟩
theorem yy_X8_seen : tg_Y0 yX8_seen cX8_seen 3 (some .int) 2 := ⟨wc_X8_seen, wi_X8, by decide +kernel, by decide +kernel, by decide +kernel⟩
theorem yy_X8_forget : tg_Y0 yX8_forget cX8_forget 2 (some .int) 0 := ⟨wc_X8_forget, wi_X8, by decide +kernel, by decide +kernel, by decide +kernel⟩
theorem yy_X8_isSeen : tg_Y0 yX8_isSeen cX8_isSeen 3 (some .boolean) 0 := ⟨wc_X8_isSeen, wi_X8, by decide +kernel, by decide +kernel, by decide +kernel⟩
theorem yy_X8_neverNow : tg_Y0 yX8_neverNow cX8_neverNow 3 (some .int) 0 := ⟨wc_X8_neverNow, wi_X8, by decide +kernel, by decide +kernel, by decide +kernel⟩
theorem yy_X8_never : tg_Y0 yX8_never cX8_never 1 (some .int) 0 := ⟨wc_X8_never, wi_X8, by decide +kernel, by decide +kernel, by decide +kernel⟩
theorem yy_X8_weightsBy : tg_Y0 yX8_weightsBy cX8_weightsBy 6 (some .int) 1 := ⟨wc_X8_weightsBy, wi_X8, by decide +kernel, by decide +kernel, by decide +kernel⟩
theorem yy_X8_sortsBy : tg_Y0 yX8_sortsBy cX8_sortsBy 5 (some .int) 1 := ⟨wc_X8_sortsBy, wi_X8, by decide +kernel, by decide +kernel, by decide +kernel⟩
theorem yy_X8_was : tg_Y0 yX8_was cX8_was 3 (some .int) 2 := ⟨wc_X8_was, wi_X8, by decide +kernel, by decide +kernel, by decide +kernel⟩
theorem yy_X8_askOf : tg_Y0 yX8_askOf cX8_askOf 10 (some .int) 1 := ⟨wc_X8_askOf, wi_X8, by decide +kernel, by decide +kernel, by decide +kernel⟩
theorem yy_X8_ask : tg_Y0 yX8_ask cX8_ask 2 (some .int) 1 := ⟨wc_X8_ask, wi_X8, by decide +kernel, by decide +kernel, by decide +kernel⟩
theorem yy_X8_chanceOf : tg_Y0 yX8_chanceOf cX8_chanceOf 10 (some .long) 3 := ⟨wc_X8_chanceOf, wi_X8, by decide +kernel, by decide +kernel, by decide +kernel⟩
theorem yy_X8_chance : tg_Y0 yX8_chance cX8_chance 4 (some .long) 3 := ⟨wc_X8_chance, wi_X8, by decide +kernel, by decide +kernel, by decide +kernel⟩
theorem yy_X8_yearsOf : tg_Y0 yX8_yearsOf cX8_yearsOf 6 (some .int) 3 := ⟨wc_X8_yearsOf, wi_X8, by decide +kernel, by decide +kernel, by decide +kernel⟩
theorem yy_X8_years : tg_Y0 yX8_years cX8_years 4 (some .int) 3 := ⟨wc_X8_years, wi_X8, by decide +kernel, by decide +kernel, by decide +kernel⟩
theorem yy_X8_sheet : tg_Y0 yX8_sheet cX8_sheet 5 (some .int) 3 := ⟨wc_X8_sheet, wi_X8, by decide +kernel, by decide +kernel, by decide +kernel⟩
theorem yy_X8_lose : tg_Y0 yX8_lose cX8_lose 2 (some .int) 1 := ⟨wc_X8_lose, wi_X8, by decide +kernel, by decide +kernel, by decide +kernel⟩
theorem yy_X8_lacks : tg_Y0 yX8_lacks cX8_lacks 4 (some .int) 3 := ⟨wc_X8_lacks, wi_X8, by decide +kernel, by decide +kernel, by decide +kernel⟩
theorem yy_X8_keep : tg_Y0 yX8_keep cX8_keep 4 none 3 := ⟨wc_X8_keep, wi_X8, by decide +kernel, by decide +kernel, by decide +kernel⟩
theorem yy_X8_put : tg_Y0 yX8_put cX8_put 6 (some .int) 4 := ⟨wc_X8_put, wi_X8, by decide +kernel, by decide +kernel, by decide +kernel⟩
theorem yy_X8_get : tg_Y0 yX8_get cX8_get 5 (some .int) 3 := ⟨wc_X8_get, wi_X8, by decide +kernel, by decide +kernel, by decide +kernel⟩
theorem yy_X8_copy : tg_Y0 yX8_copy cX8_copy 7 (some .int) 5 := ⟨wc_X8_copy, wi_X8, by decide +kernel, by decide +kernel, by decide +kernel⟩
theorem yy_X8_write : tg_Y0 yX8_write cX8_write 3 (some .int) 1 := ⟨wc_X8_write, wi_X8, by decide +kernel, by decide +kernel, by decide +kernel⟩
theorem yy_X8_tellOf : tg_Y0 yX8_tellOf cX8_tellOf 2 (some .int) 1 := ⟨wc_X8_tellOf, wi_X8, by decide +kernel, by decide +kernel, by decide +kernel⟩
theorem yy_X8_count : tg_Y0 yX8_count cX8_count 2 (some .int) 1 := ⟨wc_X8_count, wi_X8, by decide +kernel, by decide +kernel, by decide +kernel⟩
theorem yy_X8_beatDigest : tg_Y0 yX8_beatDigest cX8_beatDigest 7 (some .long) 3 := ⟨wc_X8_beatDigest, wi_X8, by decide +kernel, by decide +kernel, by decide +kernel⟩
theorem yy_X8_pullerDigest : tg_Y0 yX8_pullerDigest cX8_pullerDigest 7 (some .long) 2 := ⟨wc_X8_pullerDigest, wi_X8, by decide +kernel, by decide +kernel, by decide +kernel⟩
theorem yy_X8_teamDigest : tg_Y0 yX8_teamDigest cX8_teamDigest 7 (some .long) 2 := ⟨wc_X8_teamDigest, wi_X8, by decide +kernel, by decide +kernel, by decide +kernel⟩
theorem yy_X8_digest : tg_Y0 yX8_digest cX8_digest 5 (some .long) 0 := ⟨wc_X8_digest, wi_X8, by decide +kernel, by decide +kernel, by decide +kernel⟩
theorem tg_lsD2 {a b o p d z : Int} (h1 : z ≠ a) (h2 : z ≠ b) : Op.lookupswitch.offset [(a, o), (b, p)] d z = d := by
  simp [Op.lookupswitch.offset, List.find?, Ne.symm h1, Ne.symm h2, beq_iff_eq]
theorem tg_lsD3 {a b c o p q d z : Int} (h1 : z ≠ a) (h2 : z ≠ b) (h3 : z ≠ c) : Op.lookupswitch.offset [(a, o), (b, p), (c, q)] d z = d := by
  simp [Op.lookupswitch.offset, List.find?, Ne.symm h1, Ne.symm h2, Ne.symm h3, beq_iff_eq]
