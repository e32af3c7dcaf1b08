/-! the tables, decided by the kernel -/
set_option maxRecDepth 100000 in
theorem am_ok362 : am_ok (am_I 362) (.code (am_Y 362) (am_B 362) (am_X 362) (am_R 362)) = true := by
  unfold am_ok
  rw [Bool.and_eq_true]
  exact ⟨decide_eq_true rfl, rfl⟩
set_option maxRecDepth 100000 in
theorem am_H362 : am_kH 362 = true := by
  have h1 : am_H 362 = [] := rfl
  unfold am_kH
  rw [h1]
  dsimp only
  rw [am_ok362]
  decide +kernel
set_option maxRecDepth 100000 in
theorem am_H360 : [360, 361, 363, 364].all am_kH = true := by decide +kernel
theorem am_Hc36 : (List.range 5).all (fun j => am_kH (360 + j)) = true := by
  have h := List.all_eq_true.mp am_H360
  refine List.all_eq_true.mpr fun j hj => ?_
  have hj := List.mem_range.mp hj
  match j, hj with
  | 0, _ => exact h 360 (by simp)
  | 1, _ => exact h 361 (by simp)
  | 2, _ => exact am_H362
  | 3, _ => exact h 363 (by simp)
  | 4, _ => exact h 364 (by simp)
  | j + 5, h => exact absurd h (by omega)
theorem am_Hc_all (k : Nat) (h : k < 365) : am_kH k = true := by
  by_cases h0 : k < 10
  · have := List.all_eq_true.mp am_Hc0 (k - 0) (List.mem_range.mpr (by omega))
    rwa [show 0 + (k - 0) = k by omega] at this
  by_cases h1 : k < 20
  · have := List.all_eq_true.mp am_Hc1 (k - 10) (List.mem_range.mpr (by omega))
    rwa [show 10 + (k - 10) = k by omega] at this
  by_cases h2 : k < 30
  · have := List.all_eq_true.mp am_Hc2 (k - 20) (List.mem_range.mpr (by omega))
    rwa [show 20 + (k - 20) = k by omega] at this
  by_cases h3 : k < 40
  · have := List.all_eq_true.mp am_Hc3 (k - 30) (List.mem_range.mpr (by omega))
    rwa [show 30 + (k - 30) = k by omega] at this
  by_cases h4 : k < 50
  · have := List.all_eq_true.mp am_Hc4 (k - 40) (List.mem_range.mpr (by omega))
    rwa [show 40 + (k - 40) = k by omega] at this
  by_cases h5 : k < 60
  · have := List.all_eq_true.mp am_Hc5 (k - 50) (List.mem_range.mpr (by omega))
    rwa [show 50 + (k - 50) = k by omega] at this
  by_cases h6 : k < 70
  · have := List.all_eq_true.mp am_Hc6 (k - 60) (List.mem_range.mpr (by omega))
    rwa [show 60 + (k - 60) = k by omega] at this
  by_cases h7 : k < 80
  · have := List.all_eq_true.mp am_Hc7 (k - 70) (List.mem_range.mpr (by omega))
    rwa [show 70 + (k - 70) = k by omega] at this
  by_cases h8 : k < 90
  · have := List.all_eq_true.mp am_Hc8 (k - 80) (List.mem_range.mpr (by omega))
    rwa [show 80 + (k - 80) = k by omega] at this
  by_cases h9 : k < 100
  · have := List.all_eq_true.mp am_Hc9 (k - 90) (List.mem_range.mpr (by omega))
    rwa [show 90 + (k - 90) = k by omega] at this
  by_cases h10 : k < 110
  · have := List.all_eq_true.mp am_Hc10 (k - 100) (List.mem_range.mpr (by omega))
    rwa [show 100 + (k - 100) = k by omega] at this
  by_cases h11 : k < 120
  · have := List.all_eq_true.mp am_Hc11 (k - 110) (List.mem_range.mpr (by omega))
    rwa [show 110 + (k - 110) = k by omega] at this
  by_cases h12 : k < 130
  · have := List.all_eq_true.mp am_Hc12 (k - 120) (List.mem_range.mpr (by omega))
    rwa [show 120 + (k - 120) = k by omega] at this
  by_cases h13 : k < 140
  · have := List.all_eq_true.mp am_Hc13 (k - 130) (List.mem_range.mpr (by omega))
    rwa [show 130 + (k - 130) = k by omega] at this
  by_cases h14 : k < 150
  · have := List.all_eq_true.mp am_Hc14 (k - 140) (List.mem_range.mpr (by omega))
    rwa [show 140 + (k - 140) = k by omega] at this
  by_cases h15 : k < 160
  · have := List.all_eq_true.mp am_Hc15 (k - 150) (List.mem_range.mpr (by omega))
    rwa [show 150 + (k - 150) = k by omega] at this
  by_cases h16 : k < 170
  · have := List.all_eq_true.mp am_Hc16 (k - 160) (List.mem_range.mpr (by omega))
    rwa [show 160 + (k - 160) = k by omega] at this
  by_cases h17 : k < 180
  · have := List.all_eq_true.mp am_Hc17 (k - 170) (List.mem_range.mpr (by omega))
    rwa [show 170 + (k - 170) = k by omega] at this
  by_cases h18 : k < 190
  · have := List.all_eq_true.mp am_Hc18 (k - 180) (List.mem_range.mpr (by omega))
    rwa [show 180 + (k - 180) = k by omega] at this
  by_cases h19 : k < 200
  · have := List.all_eq_true.mp am_Hc19 (k - 190) (List.mem_range.mpr (by omega))
    rwa [show 190 + (k - 190) = k by omega] at this
  by_cases h20 : k < 210
  · have := List.all_eq_true.mp am_Hc20 (k - 200) (List.mem_range.mpr (by omega))
    rwa [show 200 + (k - 200) = k by omega] at this
  by_cases h21 : k < 220
  · have := List.all_eq_true.mp am_Hc21 (k - 210) (List.mem_range.mpr (by omega))
    rwa [show 210 + (k - 210) = k by omega] at this
  by_cases h22 : k < 230
  · have := List.all_eq_true.mp am_Hc22 (k - 220) (List.mem_range.mpr (by omega))
    rwa [show 220 + (k - 220) = k by omega] at this
  by_cases h23 : k < 240
  · have := List.all_eq_true.mp am_Hc23 (k - 230) (List.mem_range.mpr (by omega))
    rwa [show 230 + (k - 230) = k by omega] at this
  by_cases h24 : k < 250
  · have := List.all_eq_true.mp am_Hc24 (k - 240) (List.mem_range.mpr (by omega))
    rwa [show 240 + (k - 240) = k by omega] at this
  by_cases h25 : k < 260
  · have := List.all_eq_true.mp am_Hc25 (k - 250) (List.mem_range.mpr (by omega))
    rwa [show 250 + (k - 250) = k by omega] at this
  by_cases h26 : k < 270
  · have := List.all_eq_true.mp am_Hc26 (k - 260) (List.mem_range.mpr (by omega))
    rwa [show 260 + (k - 260) = k by omega] at this
  by_cases h27 : k < 280
  · have := List.all_eq_true.mp am_Hc27 (k - 270) (List.mem_range.mpr (by omega))
    rwa [show 270 + (k - 270) = k by omega] at this
  by_cases h28 : k < 290
  · have := List.all_eq_true.mp am_Hc28 (k - 280) (List.mem_range.mpr (by omega))
    rwa [show 280 + (k - 280) = k by omega] at this
  by_cases h29 : k < 300
  · have := List.all_eq_true.mp am_Hc29 (k - 290) (List.mem_range.mpr (by omega))
    rwa [show 290 + (k - 290) = k by omega] at this
  by_cases h30 : k < 310
  · have := List.all_eq_true.mp am_Hc30 (k - 300) (List.mem_range.mpr (by omega))
    rwa [show 300 + (k - 300) = k by omega] at this
  by_cases h31 : k < 320
  · have := List.all_eq_true.mp am_Hc31 (k - 310) (List.mem_range.mpr (by omega))
    rwa [show 310 + (k - 310) = k by omega] at this
  by_cases h32 : k < 330
  · have := List.all_eq_true.mp am_Hc32 (k - 320) (List.mem_range.mpr (by omega))
    rwa [show 320 + (k - 320) = k by omega] at this
  by_cases h33 : k < 340
  · have := List.all_eq_true.mp am_Hc33 (k - 330) (List.mem_range.mpr (by omega))
    rwa [show 330 + (k - 330) = k by omega] at this
  by_cases h34 : k < 350
  · have := List.all_eq_true.mp am_Hc34 (k - 340) (List.mem_range.mpr (by omega))
    rwa [show 340 + (k - 340) = k by omega] at this
  by_cases h35 : k < 360
  · have := List.all_eq_true.mp am_Hc35 (k - 350) (List.mem_range.mpr (by omega))
    rwa [show 350 + (k - 350) = k by omega] at this
  by_cases h36 : k < 365
  · have := List.all_eq_true.mp am_Hc36 (k - 360) (List.mem_range.mpr (by omega))
    rwa [show 360 + (k - 360) = k by omega] at this
  · omega
