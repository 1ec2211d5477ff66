/-! The reference's rows: images, restored ones, an office begun. -/
set_option maxRecDepth 16384 in
theorem B205_18 {m : MM} {k : Int} (h14 : m 148 14 = 150) (h16 : m 148 16 = 152) (hk : k = 0 ∨ k = 1) : L205_18 m 148 k 0 = (1, 0, (456, fm m 152 (456 * k + 0) (456 * k + 456) (fun j => s32 (m 150 (j - 456 * k))))) := by
  unfold L205_18
  refine Lp_fill (f := K205_18 m 148 k 0) (i0 := 0) (n := 456) (base := 456 * k) (d := 152) (by decide) (fun i h1 h2 => ?_) ?_
  · show S205_18 (fm m 152 (456 * k + 0) (456 * k + i) (fun j => s32 (m 150 (j - 456 * k)))) 148 k i = _
    unfold S205_18
    rw [if_neg (by omega), fm_n (b := 148) (by decide), fm_n (b := 148) (by decide), h14, h16, fm_n (b := 150) (by decide), s32_id (z := 456 * k) (by omega) (by omega), s32_id (z := 456 * k + i) (by omega) (by omega), s32_id (z := i + 1) (by omega) (by omega)]
    have e : 456 * k + i - 456 * k = i := by omega
    rw [e]
  · show S205_18 (fm m 152 (456 * k + 0) (456 * k + 456) (fun j => s32 (m 150 (j - 456 * k)))) 148 k 456 = _
    unfold S205_18
    rw [if_pos (by decide)]
set_option maxRecDepth 16384 in
theorem B205_51 {m : MM} {k : Int} (h19 : m 148 19 = 155) (h21 : m 148 21 = 157) (hk : k = 0 ∨ k = 1) : L205_51 m 148 k 0 = (1, 0, (16, fm m 157 (16 * k + 0) (16 * k + 16) (fun j => m 155 (j - 16 * k)))) := by
  unfold L205_51
  refine Lp_fill (f := K205_51 m 148 k 0) (i0 := 0) (n := 16) (base := 16 * k) (d := 157) (by decide) (fun i h1 h2 => ?_) ?_
  · show S205_51 (fm m 157 (16 * k + 0) (16 * k + i) (fun j => m 155 (j - 16 * k))) 148 k i = _
    unfold S205_51
    rw [if_neg (by omega), fm_n (b := 148) (by decide), fm_n (b := 148) (by decide), h19, h21, fm_n (b := 155) (by decide), s32_id (z := 16 * k) (by omega) (by omega), s32_id (z := 16 * k + i) (by omega) (by omega), s32_id (z := i + 1) (by omega) (by omega)]
    have e : 16 * k + i - 16 * k = i := by omega
    rw [e]
  · show S205_51 (fm m 157 (16 * k + 0) (16 * k + 16) (fun j => m 155 (j - 16 * k))) 148 k 16 = _
    unfold S205_51
    rw [if_pos (by decide)]
set_option maxRecDepth 16384 in
theorem B265_27 {m : MM} {k : Int} (h14 : m 148 14 = 150) (h16 : m 148 16 = 152) (hk : k = 0 ∨ k = 1) : L265_27 m 148 k 0 = (1, 0, (456, fm m 150 (0 + 0) (0 + 456) (fun j => s32 (m 152 (456 * k + j))))) := by
  unfold L265_27
  refine Lp_fill (f := K265_27 m 148 k 0) (i0 := 0) (n := 456) (base := 0) (d := 150) (by decide) (fun i h1 h2 => ?_) ?_
  · show S265_27 (fm m 150 (0 + 0) (0 + i) (fun j => s32 (m 152 (456 * k + j)))) 148 k i = _
    unfold S265_27
    rw [if_neg (by omega), fm_n (b := 148) (by decide), fm_n (b := 148) (by decide), h14, h16, fm_n (b := 152) (by decide), s32_id (z := 456 * k) (by omega) (by omega), s32_id (z := 456 * k + i) (by omega) (by omega), s32_id (z := i + 1) (by omega) (by omega), Int.zero_add i]
  · show S265_27 (fm m 150 (0 + 0) (0 + 456) (fun j => s32 (m 152 (456 * k + j)))) 148 k 456 = _
    unfold S265_27
    rw [if_pos (by decide)]
set_option maxRecDepth 16384 in
theorem B265_60 {m : MM} {k : Int} (h19 : m 148 19 = 155) (h21 : m 148 21 = 157) (hk : k = 0 ∨ k = 1) : L265_60 m 148 k 0 = (1, 0, (16, fm m 155 (0 + 0) (0 + 16) (fun j => m 157 (16 * k + j)))) := by
  unfold L265_60
  refine Lp_fill (f := K265_60 m 148 k 0) (i0 := 0) (n := 16) (base := 0) (d := 155) (by decide) (fun i h1 h2 => ?_) ?_
  · show S265_60 (fm m 155 (0 + 0) (0 + i) (fun j => m 157 (16 * k + j))) 148 k i = _
    unfold S265_60
    rw [if_neg (by omega), fm_n (b := 148) (by decide), fm_n (b := 148) (by decide), h19, h21, fm_n (b := 157) (by decide), s32_id (z := 16 * k) (by omega) (by omega), s32_id (z := 16 * k + i) (by omega) (by omega), s32_id (z := i + 1) (by omega) (by omega), Int.zero_add i]
  · show S265_60 (fm m 155 (0 + 0) (0 + 16) (fun j => m 157 (16 * k + j))) 148 k 16 = _
    unfold S265_60
    rw [if_pos (by decide)]
set_option maxRecDepth 16384 in
theorem B230_71 {m : MM} {n : Int} (h14 : m 148 14 = 150) (h15 : m 148 15 = 151) : L230_71 m 148 n 0 = (1, 0, (92, fm m 150 (0 + 0) (0 + 92) (fun j => s32 (m 151 j)))) := by
  unfold L230_71
  refine Lp_fill (f := K230_71 m 148 n 0) (i0 := 0) (n := 92) (base := 0) (d := 150) (by decide) (fun i h1 h2 => ?_) ?_
  · show S230_71 (fm m 150 (0 + 0) (0 + i) (fun j => s32 (m 151 j))) 148 n i = _
    unfold S230_71
    rw [if_neg (by omega), fm_n (b := 148) (by decide), fm_n (b := 148) (by decide), h14, h15, fm_n (b := 151) (by decide), s32_id (z := i + 1) (by omega) (by omega), Int.zero_add i]
  · show S230_71 (fm m 150 (0 + 0) (0 + 92) (fun j => s32 (m 151 j))) 148 n 92 = _
    unfold S230_71
    rw [if_pos (by decide)]
set_option maxRecDepth 16384 in
theorem B230_97 {m : MM} {n : Int} (h19 : m 148 19 = 155) (h20 : m 148 20 = 156) : L230_97 m 148 n 0 = (1, 0, (16, fm m 155 (0 + 0) (0 + 16) (fun j => m 156 j))) := by
  unfold L230_97
  refine Lp_fill (f := K230_97 m 148 n 0) (i0 := 0) (n := 16) (base := 0) (d := 155) (by decide) (fun i h1 h2 => ?_) ?_
  · show S230_97 (fm m 155 (0 + 0) (0 + i) (fun j => m 156 j)) 148 n i = _
    unfold S230_97
    rw [if_neg (by omega), fm_n (b := 148) (by decide), fm_n (b := 148) (by decide), h19, h20, fm_n (b := 156) (by decide), s32_id (z := i + 1) (by omega) (by omega), Int.zero_add i]
  · show S230_97 (fm m 155 (0 + 0) (0 + 16) (fun j => m 156 j)) 148 n 16 = _
    unfold S230_97
    rw [if_pos (by decide)]
set_option maxRecDepth 16384 in
theorem B280_3 {m : MM} (h14 : m 148 14 = 150) : L280_3 m 148 92 = (1, 0, (456, fm m 150 (0 + 92) (0 + 456) (fun _ => s32 0))) := by
  unfold L280_3
  refine Lp_fill (f := K280_3 m 148 92) (i0 := 92) (n := 456) (base := 0) (d := 150) (by decide) (fun i h1 h2 => ?_) ?_
  · show S280_3 (fm m 150 (0 + 92) (0 + i) (fun _ => s32 0)) 148 i = _
    unfold S280_3
    rw [if_neg (by omega), fm_n (b := 148) (by decide), h14, s32_id (z := i + 1) (by omega) (by omega), Int.zero_add i]
  · show S280_3 (fm m 150 (0 + 92) (0 + 456) (fun _ => s32 0)) 148 456 = _
    unfold S280_3
    rw [if_pos (by decide)]
set_option maxRecDepth 16384 in
theorem B280_38 {m : MM} (h14 : m 148 14 = 150) : L280_38 m 148 0 = (1, 0, (64, fm m 150 (94 + 0) (94 + 64) (fun j => s32 (m 150 (j - 82))))) := by
  unfold L280_38
  refine Lp_fill (f := K280_38 m 148 0) (i0 := 0) (n := 64) (base := 94) (d := 150) (by decide) (fun i h1 h2 => ?_) ?_
  · show S280_38 (fm m 150 (94 + 0) (94 + i) (fun j => s32 (m 150 (j - 82)))) 148 i = _
    unfold S280_38
    rw [if_neg (by omega), fm_n (b := 148) (by decide), h14, s32_id (z := 12 + i) (by omega) (by omega), s32_id (z := 94 + i) (by omega) (by omega), fm_o (by omega), s32_id (z := i + 1) (by omega) (by omega)]
    have e : 94 + i - 82 = 12 + i := by omega
    rw [e]
  · show S280_38 (fm m 150 (94 + 0) (94 + 64) (fun j => s32 (m 150 (j - 82)))) 148 64 = _
    unfold S280_38
    rw [if_pos (by decide)]
set_option maxRecDepth 16384 in
theorem B280_89 {m : MM} (h14 : m 148 14 = 150) : L280_89 m 148 0 = (1, 0, (8, fm m 150 (198 + 0) (198 + 8) (fun _ => s32 (-1)))) := by
  unfold L280_89
  refine Lp_fill (f := K280_89 m 148 0) (i0 := 0) (n := 8) (base := 198) (d := 150) (by decide) (fun i h1 h2 => ?_) ?_
  · show S280_89 (fm m 150 (198 + 0) (198 + i) (fun _ => s32 (-1))) 148 i = _
    unfold S280_89
    rw [if_neg (by omega), fm_n (b := 148) (by decide), h14, s32_id (z := 198 + i) (by omega) (by omega), s32_id (z := i + 1) (by omega) (by omega)]
  · show S280_89 (fm m 150 (198 + 0) (198 + 8) (fun _ => s32 (-1))) 148 8 = _
    unfold S280_89
    rw [if_pos (by decide)]
set_option maxRecDepth 16384 in
theorem B232_2 {m : MM} {f : Int} (h14 : m 148 14 = 150) (h0 : 0 ≤ f) (h8 : f < 8) : L232_2 m 148 f 0 = (1, 0, (3, fm m 150 (158 + 3 * f + 0) (158 + 3 * f + 3) (fun _ => s32 (-1)))) := by
  unfold L232_2
  refine Lp_fill (f := K232_2 m 148 f 0) (i0 := 0) (n := 3) (base := 158 + 3 * f) (d := 150) (by decide) (fun i h1 h2 => ?_) ?_
  · show S232_2 (fm m 150 (158 + 3 * f + 0) (158 + 3 * f + i) (fun _ => s32 (-1))) 148 f i = _
    unfold S232_2
    rw [if_neg (by omega), fm_n (b := 148) (by decide), h14, s32_id (z := 3 * f) (by omega) (by omega), s32_id (z := 158 + 3 * f) (by omega) (by omega), s32_id (z := 158 + 3 * f + i) (by omega) (by omega), s32_id (z := i + 1) (by omega) (by omega)]
  · show S232_2 (fm m 150 (158 + 3 * f + 0) (158 + 3 * f + 3) (fun _ => s32 (-1))) 148 f 3 = _
    unfold S232_2
    rw [if_pos (by decide)]
