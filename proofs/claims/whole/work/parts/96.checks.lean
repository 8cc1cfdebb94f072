/-! the kernel has checked the tables against the code -/
set_option maxRecDepth 100000 in
theorem okb_0 : (List.range 20).all (fun i => okB2 (0 + i)) = true := by decide +kernel
set_option maxRecDepth 100000 in
theorem okb_20 : (List.range 20).all (fun i => okB2 (20 + i)) = true := by decide +kernel
set_option maxRecDepth 100000 in
theorem okb_40 : (List.range 20).all (fun i => okB2 (40 + i)) = true := by decide +kernel
set_option maxRecDepth 100000 in
theorem okb_60 : (List.range 20).all (fun i => okB2 (60 + i)) = true := by decide +kernel
set_option maxRecDepth 100000 in
theorem okb_80 : (List.range 20).all (fun i => okB2 (80 + i)) = true := by decide +kernel
set_option maxRecDepth 100000 in
theorem okb_100 : (List.range 20).all (fun i => okB2 (100 + i)) = true := by decide +kernel
set_option maxRecDepth 100000 in
theorem okb_120 : (List.range 20).all (fun i => okB2 (120 + i)) = true := by decide +kernel
set_option maxRecDepth 100000 in
theorem okb_140 : (List.range 20).all (fun i => okB2 (140 + i)) = true := by decide +kernel
set_option maxRecDepth 100000 in
theorem okb_160 : (List.range 20).all (fun i => okB2 (160 + i)) = true := by decide +kernel
set_option maxRecDepth 100000 in
theorem okb_180 : (List.range 20).all (fun i => okB2 (180 + i)) = true := by decide +kernel
set_option maxRecDepth 100000 in
theorem okb_200 : (List.range 20).all (fun i => okB2 (200 + i)) = true := by decide +kernel
set_option maxRecDepth 100000 in
theorem okb_220 : (List.range 12).all (fun i => okB2 (220 + i)) = true := by decide +kernel
theorem okb_all : (List.range 232).all okB2 = true := by
  rw [List.all_eq_true]
  intro m hm
  have hm := List.mem_range.mp hm
  by_cases h0 : m < 20
  · have := List.all_eq_true.mp okb_0 (m - 0) (List.mem_range.mpr (by omega))
    rw [show 0 + (m - 0) = m by omega] at this
    exact this
  by_cases h20 : m < 40
  · have := List.all_eq_true.mp okb_20 (m - 20) (List.mem_range.mpr (by omega))
    rw [show 20 + (m - 20) = m by omega] at this
    exact this
  by_cases h40 : m < 60
  · have := List.all_eq_true.mp okb_40 (m - 40) (List.mem_range.mpr (by omega))
    rw [show 40 + (m - 40) = m by omega] at this
    exact this
  by_cases h60 : m < 80
  · have := List.all_eq_true.mp okb_60 (m - 60) (List.mem_range.mpr (by omega))
    rw [show 60 + (m - 60) = m by omega] at this
    exact this
  by_cases h80 : m < 100
  · have := List.all_eq_true.mp okb_80 (m - 80) (List.mem_range.mpr (by omega))
    rw [show 80 + (m - 80) = m by omega] at this
    exact this
  by_cases h100 : m < 120
  · have := List.all_eq_true.mp okb_100 (m - 100) (List.mem_range.mpr (by omega))
    rw [show 100 + (m - 100) = m by omega] at this
    exact this
  by_cases h120 : m < 140
  · have := List.all_eq_true.mp okb_120 (m - 120) (List.mem_range.mpr (by omega))
    rw [show 120 + (m - 120) = m by omega] at this
    exact this
  by_cases h140 : m < 160
  · have := List.all_eq_true.mp okb_140 (m - 140) (List.mem_range.mpr (by omega))
    rw [show 140 + (m - 140) = m by omega] at this
    exact this
  by_cases h160 : m < 180
  · have := List.all_eq_true.mp okb_160 (m - 160) (List.mem_range.mpr (by omega))
    rw [show 160 + (m - 160) = m by omega] at this
    exact this
  by_cases h180 : m < 200
  · have := List.all_eq_true.mp okb_180 (m - 180) (List.mem_range.mpr (by omega))
    rw [show 180 + (m - 180) = m by omega] at this
    exact this
  by_cases h200 : m < 220
  · have := List.all_eq_true.mp okb_200 (m - 200) (List.mem_range.mpr (by omega))
    rw [show 200 + (m - 200) = m by omega] at this
    exact this
  by_cases h220 : m < 232
  · have := List.all_eq_true.mp okb_220 (m - 220) (List.mem_range.mpr (by omega))
    rw [show 220 + (m - 220) = m by omega] at this
    exact this
  omega
