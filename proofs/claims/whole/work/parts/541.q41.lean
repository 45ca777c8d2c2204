section Pure41
variable {V : VT} {c b B : Nat} {μ ν : Mem}
def so0 (x : Nat) : Int32 := if x = 98 then 0 else if x = 119 then 1 else if x = 100 then 2 else if x = 110 then 3 else if x = 102 then 4 else if x = 105 then 5 else -1
theorem ixof_0 {x : Nat} (hx : x < 256) : fJ0_indexOf_0f7a4_s0 (nI x) μ = some (so0 x, μ) := by
  have hb : ∀ ch, ch < 128 → (nI ch = (nI x).toInt8.toInt32) = (x = ch) := fun ch h => propext (byte_eq hx h)
  have L0 : fJ1_indexOfChar_4cfef_v0_b7 FU 6 ((nI x).toInt8.toInt32) 0 μ = some (so0 x, μ) := by
    show fJ1_indexOfChar_4cfef_v0_b7 (993 + 1 + 1 + 1 + 1 + 1 + 1 + 1) 6 _ (nI 0) μ = _
    unfold so0
    rw [fJ1_indexOfChar_4cfef_v0_b7, if_neg (show ¬ (6 : Int32) ≤ nI 0 by decide), gd_of (show inb (nI 0) 6 = true by decide), show sch 0 (nI 0) = nI 98 from rfl]
    simp only [hb 98 (by decide), nI_1, Nat.reduceAdd]
    by_cases q0 : x = 98
    · simp only [if_pos q0]; rfl
    simp only [if_neg q0]
    rw [fJ1_indexOfChar_4cfef_v0_b7, if_neg (show ¬ (6 : Int32) ≤ nI 1 by decide), gd_of (show inb (nI 1) 6 = true by decide), show sch 0 (nI 1) = nI 119 from rfl]
    simp only [hb 119 (by decide), nI_1, Nat.reduceAdd]
    by_cases q1 : x = 119
    · simp only [if_pos q1]; rfl
    simp only [if_neg q1]
    rw [fJ1_indexOfChar_4cfef_v0_b7, if_neg (show ¬ (6 : Int32) ≤ nI 2 by decide), gd_of (show inb (nI 2) 6 = true by decide), show sch 0 (nI 2) = nI 100 from rfl]
    simp only [hb 100 (by decide), nI_1, Nat.reduceAdd]
    by_cases q2 : x = 100
    · simp only [if_pos q2]; rfl
    simp only [if_neg q2]
    rw [fJ1_indexOfChar_4cfef_v0_b7, if_neg (show ¬ (6 : Int32) ≤ nI 3 by decide), gd_of (show inb (nI 3) 6 = true by decide), show sch 0 (nI 3) = nI 110 from rfl]
    simp only [hb 110 (by decide), nI_1, Nat.reduceAdd]
    by_cases q3 : x = 110
    · simp only [if_pos q3]; rfl
    simp only [if_neg q3]
    rw [fJ1_indexOfChar_4cfef_v0_b7, if_neg (show ¬ (6 : Int32) ≤ nI 4 by decide), gd_of (show inb (nI 4) 6 = true by decide), show sch 0 (nI 4) = nI 102 from rfl]
    simp only [hb 102 (by decide), nI_1, Nat.reduceAdd]
    by_cases q4 : x = 102
    · simp only [if_pos q4]; rfl
    simp only [if_neg q4]
    rw [fJ1_indexOfChar_4cfef_v0_b7, if_neg (show ¬ (6 : Int32) ≤ nI 5 by decide), gd_of (show inb (nI 5) 6 = true by decide), show sch 0 (nI 5) = nI 105 from rfl]
    simp only [hb 105 (by decide), nI_1, Nat.reduceAdd]
    by_cases q5 : x = 105
    · simp only [if_pos q5]; rfl
    simp only [if_neg q5]
    rw [fJ1_indexOfChar_4cfef_v0_b7, if_pos (show (6 : Int32) ≤ nI 6 by decide)]
  unfold fJ0_indexOf_0f7a4_s0 fJ0_indexOf_7cf53_s0 fJ0_isLatin1_aae02_s0 fJ0_length_8abf5_s0 fJ0_coder_7d493_s0 fJ1_indexOf_4cfef_v0 fJ1_canEncode_9a6ad fJ1_indexOfChar_4cfef_v0
  rw [if_neg n10, if_pos rfl, bnd_e, if_neg n10, if_neg n10, bnd_e, bnd_e, if_neg (nI_pos (by omega)), if_neg (show ¬ (255 : Int32) < nI x from nI_nlt (a := 255) (by omega) (by decide)), bnd_e, if_neg n10, show imax (0 : Int32) 0 = 0 from by decide, show imin ((6 : Int32) >>> ((0 : Int32) &&& 31)) 6 = 6 from by decide]
  simp only [lt_e]
  rw [if_pos (show (0 : Int32) < 6 by decide), L0]
  rfl
def so1 (x : Nat) : Int32 := if x = 108 then 0 else if x = 111 then 1 else if x = 97 then 2 else if x = 106 then 3 else if x = 110 then 4 else -1
theorem ixof_1 {x : Nat} (hx : x < 256) : fJ0_indexOf_0f7a4_s1 (nI x) μ = some (so1 x, μ) := by
  have hb : ∀ ch, ch < 128 → (nI ch = (nI x).toInt8.toInt32) = (x = ch) := fun ch h => propext (byte_eq hx h)
  have L0 : fJ1_indexOfChar_4cfef_v1_b7 FU 5 ((nI x).toInt8.toInt32) 0 μ = some (so1 x, μ) := by
    show fJ1_indexOfChar_4cfef_v1_b7 (994 + 1 + 1 + 1 + 1 + 1 + 1) 5 _ (nI 0) μ = _
    unfold so1
    rw [fJ1_indexOfChar_4cfef_v1_b7, if_neg (show ¬ (5 : Int32) ≤ nI 0 by decide), gd_of (show inb (nI 0) 5 = true by decide), show sch 1 (nI 0) = nI 108 from rfl]
    simp only [hb 108 (by decide), nI_1, Nat.reduceAdd]
    by_cases q0 : x = 108
    · simp only [if_pos q0]; rfl
    simp only [if_neg q0]
    rw [fJ1_indexOfChar_4cfef_v1_b7, if_neg (show ¬ (5 : Int32) ≤ nI 1 by decide), gd_of (show inb (nI 1) 5 = true by decide), show sch 1 (nI 1) = nI 111 from rfl]
    simp only [hb 111 (by decide), nI_1, Nat.reduceAdd]
    by_cases q1 : x = 111
    · simp only [if_pos q1]; rfl
    simp only [if_neg q1]
    rw [fJ1_indexOfChar_4cfef_v1_b7, if_neg (show ¬ (5 : Int32) ≤ nI 2 by decide), gd_of (show inb (nI 2) 5 = true by decide), show sch 1 (nI 2) = nI 97 from rfl]
    simp only [hb 97 (by decide), nI_1, Nat.reduceAdd]
    by_cases q2 : x = 97
    · simp only [if_pos q2]; rfl
    simp only [if_neg q2]
    rw [fJ1_indexOfChar_4cfef_v1_b7, if_neg (show ¬ (5 : Int32) ≤ nI 3 by decide), gd_of (show inb (nI 3) 5 = true by decide), show sch 1 (nI 3) = nI 106 from rfl]
    simp only [hb 106 (by decide), nI_1, Nat.reduceAdd]
    by_cases q3 : x = 106
    · simp only [if_pos q3]; rfl
    simp only [if_neg q3]
    rw [fJ1_indexOfChar_4cfef_v1_b7, if_neg (show ¬ (5 : Int32) ≤ nI 4 by decide), gd_of (show inb (nI 4) 5 = true by decide), show sch 1 (nI 4) = nI 110 from rfl]
    simp only [hb 110 (by decide), nI_1, Nat.reduceAdd]
    by_cases q4 : x = 110
    · simp only [if_pos q4]; rfl
    simp only [if_neg q4]
    rw [fJ1_indexOfChar_4cfef_v1_b7, if_pos (show (5 : Int32) ≤ nI 5 by decide)]
  unfold fJ0_indexOf_0f7a4_s1 fJ0_indexOf_7cf53_s1 fJ0_isLatin1_aae02_s1 fJ0_length_8abf5_s1 fJ0_coder_7d493_s1 fJ1_indexOf_4cfef_v1 fJ1_canEncode_9a6ad fJ1_indexOfChar_4cfef_v1
  rw [if_neg n10, if_pos rfl, bnd_e, if_neg n10, if_neg n10, bnd_e, bnd_e, if_neg (nI_pos (by omega)), if_neg (show ¬ (255 : Int32) < nI x from nI_nlt (a := 255) (by omega) (by decide)), bnd_e, if_neg n10, show imax (0 : Int32) 0 = 0 from by decide, show imin ((5 : Int32) >>> ((0 : Int32) &&& 31)) 5 = 5 from by decide]
  simp only [lt_e]
  rw [if_pos (show (0 : Int32) < 5 by decide), L0]
  rfl
def so2 (x : Nat) : Int32 := if x = 45 then 0 else if x = 43 then 1 else -1
theorem ixof_2 {x : Nat} (hx : x < 256) : fJ0_indexOf_0f7a4_s2 (nI x) μ = some (so2 x, μ) := by
  have hb : ∀ ch, ch < 128 → (nI ch = (nI x).toInt8.toInt32) = (x = ch) := fun ch h => propext (byte_eq hx h)
  have L0 : fJ1_indexOfChar_4cfef_v2_b7 FU 2 ((nI x).toInt8.toInt32) 0 μ = some (so2 x, μ) := by
    show fJ1_indexOfChar_4cfef_v2_b7 (997 + 1 + 1 + 1) 2 _ (nI 0) μ = _
    unfold so2
    rw [fJ1_indexOfChar_4cfef_v2_b7, if_neg (show ¬ (2 : Int32) ≤ nI 0 by decide), gd_of (show inb (nI 0) 2 = true by decide), show sch 2 (nI 0) = nI 45 from rfl]
    simp only [hb 45 (by decide), nI_1, Nat.reduceAdd]
    by_cases q0 : x = 45
    · simp only [if_pos q0]; rfl
    simp only [if_neg q0]
    rw [fJ1_indexOfChar_4cfef_v2_b7, if_neg (show ¬ (2 : Int32) ≤ nI 1 by decide), gd_of (show inb (nI 1) 2 = true by decide), show sch 2 (nI 1) = nI 43 from rfl]
    simp only [hb 43 (by decide), nI_1, Nat.reduceAdd]
    by_cases q1 : x = 43
    · simp only [if_pos q1]; rfl
    simp only [if_neg q1]
    rw [fJ1_indexOfChar_4cfef_v2_b7, if_pos (show (2 : Int32) ≤ nI 2 by decide)]
  unfold fJ0_indexOf_0f7a4_s2 fJ0_indexOf_7cf53_s2 fJ0_isLatin1_aae02_s2 fJ0_length_8abf5_s2 fJ0_coder_7d493_s2 fJ1_indexOf_4cfef_v2 fJ1_canEncode_9a6ad fJ1_indexOfChar_4cfef_v2
  rw [if_neg n10, if_pos rfl, bnd_e, if_neg n10, if_neg n10, bnd_e, bnd_e, if_neg (nI_pos (by omega)), if_neg (show ¬ (255 : Int32) < nI x from nI_nlt (a := 255) (by omega) (by decide)), bnd_e, if_neg n10, show imax (0 : Int32) 0 = 0 from by decide, show imin ((2 : Int32) >>> ((0 : Int32) &&& 31)) 2 = 2 from by decide]
  simp only [lt_e]
  rw [if_pos (show (0 : Int32) < 2 by decide), L0]
  rfl
def so3 (x : Nat) : Int32 := if x = 104 then 0 else if x = 107 then 1 else if x = 115 then 2 else -1
theorem ixof_3 {x : Nat} (hx : x < 256) : fJ0_indexOf_0f7a4_s3 (nI x) μ = some (so3 x, μ) := by
  have hb : ∀ ch, ch < 128 → (nI ch = (nI x).toInt8.toInt32) = (x = ch) := fun ch h => propext (byte_eq hx h)
  have L0 : fJ1_indexOfChar_4cfef_v3_b7 FU 3 ((nI x).toInt8.toInt32) 0 μ = some (so3 x, μ) := by
    show fJ1_indexOfChar_4cfef_v3_b7 (996 + 1 + 1 + 1 + 1) 3 _ (nI 0) μ = _
    unfold so3
    rw [fJ1_indexOfChar_4cfef_v3_b7, if_neg (show ¬ (3 : Int32) ≤ nI 0 by decide), gd_of (show inb (nI 0) 3 = true by decide), show sch 3 (nI 0) = nI 104 from rfl]
    simp only [hb 104 (by decide), nI_1, Nat.reduceAdd]
    by_cases q0 : x = 104
    · simp only [if_pos q0]; rfl
    simp only [if_neg q0]
    rw [fJ1_indexOfChar_4cfef_v3_b7, if_neg (show ¬ (3 : Int32) ≤ nI 1 by decide), gd_of (show inb (nI 1) 3 = true by decide), show sch 3 (nI 1) = nI 107 from rfl]
    simp only [hb 107 (by decide), nI_1, Nat.reduceAdd]
    by_cases q1 : x = 107
    · simp only [if_pos q1]; rfl
    simp only [if_neg q1]
    rw [fJ1_indexOfChar_4cfef_v3_b7, if_neg (show ¬ (3 : Int32) ≤ nI 2 by decide), gd_of (show inb (nI 2) 3 = true by decide), show sch 3 (nI 2) = nI 115 from rfl]
    simp only [hb 115 (by decide), nI_1, Nat.reduceAdd]
    by_cases q2 : x = 115
    · simp only [if_pos q2]; rfl
    simp only [if_neg q2]
    rw [fJ1_indexOfChar_4cfef_v3_b7, if_pos (show (3 : Int32) ≤ nI 3 by decide)]
  unfold fJ0_indexOf_0f7a4_s3 fJ0_indexOf_7cf53_s3 fJ0_isLatin1_aae02_s3 fJ0_length_8abf5_s3 fJ0_coder_7d493_s3 fJ1_indexOf_4cfef_v3 fJ1_canEncode_9a6ad fJ1_indexOfChar_4cfef_v3
  rw [if_neg n10, if_pos rfl, bnd_e, if_neg n10, if_neg n10, bnd_e, bnd_e, if_neg (nI_pos (by omega)), if_neg (show ¬ (255 : Int32) < nI x from nI_nlt (a := 255) (by omega) (by decide)), bnd_e, if_neg n10, show imax (0 : Int32) 0 = 0 from by decide, show imin ((3 : Int32) >>> ((0 : Int32) &&& 31)) 3 = 3 from by decide]
  simp only [lt_e]
  rw [if_pos (show (0 : Int32) < 3 by decide), L0]
  rfl
def so4 (x : Nat) : Int32 := if x = 42 then 0 else if x = 47 then 1 else -1
theorem ixof_4 {x : Nat} (hx : x < 256) : fJ0_indexOf_0f7a4_s4 (nI x) μ = some (so4 x, μ) := by
  have hb : ∀ ch, ch < 128 → (nI ch = (nI x).toInt8.toInt32) = (x = ch) := fun ch h => propext (byte_eq hx h)
  have L0 : fJ1_indexOfChar_4cfef_v4_b7 FU 2 ((nI x).toInt8.toInt32) 0 μ = some (so4 x, μ) := by
    show fJ1_indexOfChar_4cfef_v4_b7 (997 + 1 + 1 + 1) 2 _ (nI 0) μ = _
    unfold so4
    rw [fJ1_indexOfChar_4cfef_v4_b7, if_neg (show ¬ (2 : Int32) ≤ nI 0 by decide), gd_of (show inb (nI 0) 2 = true by decide), show sch 4 (nI 0) = nI 42 from rfl]
    simp only [hb 42 (by decide), nI_1, Nat.reduceAdd]
    by_cases q0 : x = 42
    · simp only [if_pos q0]; rfl
    simp only [if_neg q0]
    rw [fJ1_indexOfChar_4cfef_v4_b7, if_neg (show ¬ (2 : Int32) ≤ nI 1 by decide), gd_of (show inb (nI 1) 2 = true by decide), show sch 4 (nI 1) = nI 47 from rfl]
    simp only [hb 47 (by decide), nI_1, Nat.reduceAdd]
    by_cases q1 : x = 47
    · simp only [if_pos q1]; rfl
    simp only [if_neg q1]
    rw [fJ1_indexOfChar_4cfef_v4_b7, if_pos (show (2 : Int32) ≤ nI 2 by decide)]
  unfold fJ0_indexOf_0f7a4_s4 fJ0_indexOf_7cf53_s4 fJ0_isLatin1_aae02_s4 fJ0_length_8abf5_s4 fJ0_coder_7d493_s4 fJ1_indexOf_4cfef_v4 fJ1_canEncode_9a6ad fJ1_indexOfChar_4cfef_v4
  rw [if_neg n10, if_pos rfl, bnd_e, if_neg n10, if_neg n10, bnd_e, bnd_e, if_neg (nI_pos (by omega)), if_neg (show ¬ (255 : Int32) < nI x from nI_nlt (a := 255) (by omega) (by decide)), bnd_e, if_neg n10, show imax (0 : Int32) 0 = 0 from by decide, show imin ((2 : Int32) >>> ((0 : Int32) &&& 31)) 2 = 2 from by decide]
  simp only [lt_e]
  rw [if_pos (show (0 : Int32) < 2 by decide), L0]
  rfl
def so5 (x : Nat) : Int32 := if x = 43 then 0 else if x = 45 then 1 else -1
theorem ixof_5 {x : Nat} (hx : x < 256) : fJ0_indexOf_0f7a4_s5 (nI x) μ = some (so5 x, μ) := by
  have hb : ∀ ch, ch < 128 → (nI ch = (nI x).toInt8.toInt32) = (x = ch) := fun ch h => propext (byte_eq hx h)
  have L0 : fJ1_indexOfChar_4cfef_v5_b7 FU 2 ((nI x).toInt8.toInt32) 0 μ = some (so5 x, μ) := by
    show fJ1_indexOfChar_4cfef_v5_b7 (997 + 1 + 1 + 1) 2 _ (nI 0) μ = _
    unfold so5
    rw [fJ1_indexOfChar_4cfef_v5_b7, if_neg (show ¬ (2 : Int32) ≤ nI 0 by decide), gd_of (show inb (nI 0) 2 = true by decide), show sch 5 (nI 0) = nI 43 from rfl]
    simp only [hb 43 (by decide), nI_1, Nat.reduceAdd]
    by_cases q0 : x = 43
    · simp only [if_pos q0]; rfl
    simp only [if_neg q0]
    rw [fJ1_indexOfChar_4cfef_v5_b7, if_neg (show ¬ (2 : Int32) ≤ nI 1 by decide), gd_of (show inb (nI 1) 2 = true by decide), show sch 5 (nI 1) = nI 45 from rfl]
    simp only [hb 45 (by decide), nI_1, Nat.reduceAdd]
    by_cases q1 : x = 45
    · simp only [if_pos q1]; rfl
    simp only [if_neg q1]
    rw [fJ1_indexOfChar_4cfef_v5_b7, if_pos (show (2 : Int32) ≤ nI 2 by decide)]
  unfold fJ0_indexOf_0f7a4_s5 fJ0_indexOf_7cf53_s5 fJ0_isLatin1_aae02_s5 fJ0_length_8abf5_s5 fJ0_coder_7d493_s5 fJ1_indexOf_4cfef_v5 fJ1_canEncode_9a6ad fJ1_indexOfChar_4cfef_v5
  rw [if_neg n10, if_pos rfl, bnd_e, if_neg n10, if_neg n10, bnd_e, bnd_e, if_neg (nI_pos (by omega)), if_neg (show ¬ (255 : Int32) < nI x from nI_nlt (a := 255) (by omega) (by decide)), bnd_e, if_neg n10, show imax (0 : Int32) 0 = 0 from by decide, show imin ((2 : Int32) >>> ((0 : Int32) &&& 31)) 2 = 2 from by decide]
  simp only [lt_e]
  rw [if_pos (show (0 : Int32) < 2 by decide), L0]
  rfl
def so6 (x : Nat) : Int32 := if x = 60 then 0 else if x = 62 then 1 else if x = 61 then 2 else -1
theorem ixof_6 {x : Nat} (hx : x < 256) : fJ0_indexOf_0f7a4_s6 (nI x) μ = some (so6 x, μ) := by
  have hb : ∀ ch, ch < 128 → (nI ch = (nI x).toInt8.toInt32) = (x = ch) := fun ch h => propext (byte_eq hx h)
  have L0 : fJ1_indexOfChar_4cfef_v6_b7 FU 3 ((nI x).toInt8.toInt32) 0 μ = some (so6 x, μ) := by
    show fJ1_indexOfChar_4cfef_v6_b7 (996 + 1 + 1 + 1 + 1) 3 _ (nI 0) μ = _
    unfold so6
    rw [fJ1_indexOfChar_4cfef_v6_b7, if_neg (show ¬ (3 : Int32) ≤ nI 0 by decide), gd_of (show inb (nI 0) 3 = true by decide), show sch 6 (nI 0) = nI 60 from rfl]
    simp only [hb 60 (by decide), nI_1, Nat.reduceAdd]
    by_cases q0 : x = 60
    · simp only [if_pos q0]; rfl
    simp only [if_neg q0]
    rw [fJ1_indexOfChar_4cfef_v6_b7, if_neg (show ¬ (3 : Int32) ≤ nI 1 by decide), gd_of (show inb (nI 1) 3 = true by decide), show sch 6 (nI 1) = nI 62 from rfl]
    simp only [hb 62 (by decide), nI_1, Nat.reduceAdd]
    by_cases q1 : x = 62
    · simp only [if_pos q1]; rfl
    simp only [if_neg q1]
    rw [fJ1_indexOfChar_4cfef_v6_b7, if_neg (show ¬ (3 : Int32) ≤ nI 2 by decide), gd_of (show inb (nI 2) 3 = true by decide), show sch 6 (nI 2) = nI 61 from rfl]
    simp only [hb 61 (by decide), nI_1, Nat.reduceAdd]
    by_cases q2 : x = 61
    · simp only [if_pos q2]; rfl
    simp only [if_neg q2]
    rw [fJ1_indexOfChar_4cfef_v6_b7, if_pos (show (3 : Int32) ≤ nI 3 by decide)]
  unfold fJ0_indexOf_0f7a4_s6 fJ0_indexOf_7cf53_s6 fJ0_isLatin1_aae02_s6 fJ0_length_8abf5_s6 fJ0_coder_7d493_s6 fJ1_indexOf_4cfef_v6 fJ1_canEncode_9a6ad fJ1_indexOfChar_4cfef_v6
  rw [if_neg n10, if_pos rfl, bnd_e, if_neg n10, if_neg n10, bnd_e, bnd_e, if_neg (nI_pos (by omega)), if_neg (show ¬ (255 : Int32) < nI x from nI_nlt (a := 255) (by omega) (by decide)), bnd_e, if_neg n10, show imax (0 : Int32) 0 = 0 from by decide, show imin ((3 : Int32) >>> ((0 : Int32) &&& 31)) 3 = 3 from by decide]
  simp only [lt_e]
  rw [if_pos (show (0 : Int32) < 3 by decide), L0]
  rfl
def PC (s : Nat → Nat) (t M a : Nat) (μ : Mem) : Prop := gI μ 1 1 = nI t ∧ gI μ 1 2 = nI a ∧ gI μ 1 3 = nI (min t M) ∧ ∀ j, j < t → gI μ 2 j = nI (s j)
def PM (cl : Nat) (s : Nat → Nat) (t M a : Nat) (ν : Mem) : Prop := gI ν 122 18 = nI cl ∧ gI ν 122 19 = nI t ∧ gI ν 122 20 = nI M ∧ gI ν 122 21 = nI a ∧ gI ν 122 22 = -1 ∧ ∀ j, j < t → gI ν cl j = (nI (s j)).toInt8.toInt32
def OkT (cl : Nat) (s : Nat → Nat) (t M : Nat) : Prop := ((cl = 133 ∧ t ≤ 80) ∨ (cl = 136 ∧ t ≤ 40)) ∧ M ≤ 80 ∧ ∀ j, j < t → s j < 256
def wA (k j : Nat) : Bool := k == 1 && j == 2
def wB (k j : Nat) : Bool := k == 122 && (j == 21 || j == 22)
theorem wA_sc {k j : Nat} (h : wA k j = true) : scC k j = true := by
  unfold wA at h
  simp only [Bool.and_eq_true, beq_iff_eq] at h
  obtain ⟨rfl, rfl⟩ := h
  rfl
theorem wB_sc {k j : Nat} (h : wB k j = true) : scM k j = true := by
  unfold wB at h
  simp only [Bool.or_eq_true, Bool.and_eq_true, beq_iff_eq] at h
  obtain ⟨rfl, rfl | rfl⟩ := h <;> rfl
section
variable {cl : Nat} {s : Nat → Nat} {t M a : Nat}
theorem PC.to (h : PC s t M a μ) (a' : Nat) : PC s t M a' (sI μ 1 2 (nI a')) := ⟨h.1, rfl, h.2.2.1, h.2.2.2⟩
theorem PC.off {μ' : Mem} {P : Nat → Nat → Bool} (h : PC s t M a μ) (o : Off P μ μ') (hp : ∀ k j, P k j = true → k ≠ 1 ∧ k ≠ 2) : PC s t M a μ' := by
  have e : ∀ k j, (k = 1 ∨ k = 2) → gI μ' k j = gI μ k j := fun k j q => o.1 k j (by
    cases z : P k j with
    | false => rfl
    | true => have := hp k j z; omega)
  exact ⟨(e 1 1 (by omega)).trans h.1, (e 1 2 (by omega)).trans h.2.1, (e 1 3 (by omega)).trans h.2.2.1, fun j hj => (e 2 j (by omega)).trans (h.2.2.2 j hj)⟩
theorem PM.to (hk : OkT cl s t M) (h : PM cl s t M a ν) (a' : Nat) : PM cl s t M a' (sI ν 122 21 (nI a')) := ⟨h.1, h.2.1, h.2.2.1, rfl, h.2.2.2.2.1, fun j hj => by
  rw [gI_sI, if_neg]
  · exact h.2.2.2.2.2 j hj
  · rintro ⟨rfl, -⟩
    have := hk.1
    omega⟩
theorem PM.off {ν' : Mem} {P : Nat → Nat → Bool} (h : PM cl s t M a ν) (o : Off P ν ν') (hp : ∀ k j, P k j = true → k ≠ 122 ∧ k ≠ cl) : PM cl s t M a ν' := by
  have e : ∀ k j, (k = 122 ∨ k = cl) → gI ν' k j = gI ν k j := fun k j q => o.1 k j (by
    cases z : P k j with
    | false => rfl
    | true => have := hp k j z; omega)
  exact ⟨(e 122 18 (by omega)).trans h.1, (e 122 19 (by omega)).trans h.2.1, (e 122 20 (by omega)).trans h.2.2.1, (e 122 21 (by omega)).trans h.2.2.2.1, (e 122 22 (by omega)).trans h.2.2.2.2.1, fun j hj => (e cl j (by omega)).trans (h.2.2.2.2.2 j hj)⟩
theorem cTake (hk : OkT 133 s t M) (h : PC s t M a μ) (ha : a < 2 ^ 30) {x : Nat} (hx : x < 2 ^ 30) : fX9_takes_1 (nI x) μ = some (if a < min t M ∧ s a = x then (1, sI μ 1 2 (nI (a + 1))) else (0, μ)) := by
  obtain ⟨k1, k2, k3⟩ := hk
  unfold fX9_takes_1
  rw [h.2.1, h.2.2.1]
  by_cases q : a < min t M
  · rw [if_neg (nI_ge q (by omega)), gd_in (by omega) (by decide), ix_nI (by omega), h.2.2.2 a (by omega), nI_1, lt_e]
    have := k3 a (by omega)
    by_cases e : s a = x
    · rw [if_pos (by rw [e]), if_pos ⟨q, e⟩]
    · rw [if_neg (by rw [nI_eq (by omega) (by omega)]; exact e), if_neg (fun z => e z.2)]
  · rw [if_pos (nI_le (by omega) (by omega)), if_neg (fun z => q z.1)]
theorem cDigit (hk : OkT 133 s t M) (h : PC s t M a μ) (ha : a < 2 ^ 30) {x : Nat} (hx : x < 2 ^ 30) : fX9_digit_1 (nI x) μ = some (if a < min t M ∧ 48 ≤ s a ∧ s a < 48 + x then (nI (s a - 48), sI μ 1 2 (nI (a + 1))) else (-1, μ)) := by
  obtain ⟨k1, k2, k3⟩ := hk
  unfold fX9_digit_1
  rw [h.2.1, h.2.2.1]
  by_cases q : a < min t M
  · have := k3 a (by omega)
    rw [if_neg (nI_ge q (by omega)), gd_in (by omega) (by decide), gd_in (by omega) (by decide), gd_in (by omega) (by decide), ix_nI (by omega), h.2.2.2 a (by omega), nI_1, lt_e, lt_e]
    by_cases e : 48 ≤ s a
    · rw [if_neg (show ¬ nI (s a) < (48 : Int32) from nI_nlt (b := 48) e (by omega)), show nI (s a) - (48 : Int32) = nI (s a - 48) from nI_sub (b := 48) e (by omega)]
      by_cases g : s a < 48 + x
      · rw [if_pos (nI_lt (by omega) (by omega)), if_pos ⟨q, e, g⟩]
      · rw [if_neg (nI_nlt (by omega) (by omega)), if_neg (fun z => g z.2.2)]
    · rw [if_pos (show nI (s a) < (48 : Int32) from nI_lt (b := 48) (by omega) (by decide)), if_neg (fun z => e z.2.1)]
  · rw [if_pos (nI_le (by omega) (by omega)), if_neg (fun z => q z.1)]
theorem cOne_0 (hk : OkT 133 s t M) (h : PC s t M a μ) (ha : a < 2 ^ 30) : fX9_takesOneOf_1_s0 μ = some (if a < min t M then (if so0 (s a) < 0 then (so0 (s a), μ) else (so0 (s a), sI μ 1 2 (nI (a + 1)))) else (-1, μ)) := by
  obtain ⟨k1, k2, k3⟩ := hk
  unfold fX9_takesOneOf_1_s0
  rw [h.2.1, h.2.2.1]
  by_cases q : a < min t M
  · have := k3 a (by omega)
    rw [if_pos (nI_lt q (by omega)), gd_in (by omega) (by decide), ix_nI (by omega), h.2.2.2 a (by omega), ixof_0 this, bnd_e, if_pos q, h.2.1, nI_1, lt_e]
    by_cases e : so0 (s a) < 0
    · rw [if_pos e, if_pos e]
    · rw [if_neg e, if_neg e]
  · rw [if_neg (nI_nlt (by omega) (by omega)), if_neg q]
theorem cOne_1 (hk : OkT 133 s t M) (h : PC s t M a μ) (ha : a < 2 ^ 30) : fX9_takesOneOf_1_s1 μ = some (if a < min t M then (if so1 (s a) < 0 then (so1 (s a), μ) else (so1 (s a), sI μ 1 2 (nI (a + 1)))) else (-1, μ)) := by
  obtain ⟨k1, k2, k3⟩ := hk
  unfold fX9_takesOneOf_1_s1
  rw [h.2.1, h.2.2.1]
  by_cases q : a < min t M
  · have := k3 a (by omega)
    rw [if_pos (nI_lt q (by omega)), gd_in (by omega) (by decide), ix_nI (by omega), h.2.2.2 a (by omega), ixof_1 this, bnd_e, if_pos q, h.2.1, nI_1, lt_e]
    by_cases e : so1 (s a) < 0
    · rw [if_pos e, if_pos e]
    · rw [if_neg e, if_neg e]
  · rw [if_neg (nI_nlt (by omega) (by omega)), if_neg q]
theorem cOne_2 (hk : OkT 133 s t M) (h : PC s t M a μ) (ha : a < 2 ^ 30) : fX9_takesOneOf_1_s2 μ = some (if a < min t M then (if so2 (s a) < 0 then (so2 (s a), μ) else (so2 (s a), sI μ 1 2 (nI (a + 1)))) else (-1, μ)) := by
  obtain ⟨k1, k2, k3⟩ := hk
  unfold fX9_takesOneOf_1_s2
  rw [h.2.1, h.2.2.1]
  by_cases q : a < min t M
  · have := k3 a (by omega)
    rw [if_pos (nI_lt q (by omega)), gd_in (by omega) (by decide), ix_nI (by omega), h.2.2.2 a (by omega), ixof_2 this, bnd_e, if_pos q, h.2.1, nI_1, lt_e]
    by_cases e : so2 (s a) < 0
    · rw [if_pos e, if_pos e]
    · rw [if_neg e, if_neg e]
  · rw [if_neg (nI_nlt (by omega) (by omega)), if_neg q]
theorem cOne_3 (hk : OkT 133 s t M) (h : PC s t M a μ) (ha : a < 2 ^ 30) : fX9_takesOneOf_1_s3 μ = some (if a < min t M then (if so3 (s a) < 0 then (so3 (s a), μ) else (so3 (s a), sI μ 1 2 (nI (a + 1)))) else (-1, μ)) := by
  obtain ⟨k1, k2, k3⟩ := hk
  unfold fX9_takesOneOf_1_s3
  rw [h.2.1, h.2.2.1]
  by_cases q : a < min t M
  · have := k3 a (by omega)
    rw [if_pos (nI_lt q (by omega)), gd_in (by omega) (by decide), ix_nI (by omega), h.2.2.2 a (by omega), ixof_3 this, bnd_e, if_pos q, h.2.1, nI_1, lt_e]
    by_cases e : so3 (s a) < 0
    · rw [if_pos e, if_pos e]
    · rw [if_neg e, if_neg e]
  · rw [if_neg (nI_nlt (by omega) (by omega)), if_neg q]
theorem cOne_4 (hk : OkT 133 s t M) (h : PC s t M a μ) (ha : a < 2 ^ 30) : fX9_takesOneOf_1_s4 μ = some (if a < min t M then (if so4 (s a) < 0 then (so4 (s a), μ) else (so4 (s a), sI μ 1 2 (nI (a + 1)))) else (-1, μ)) := by
  obtain ⟨k1, k2, k3⟩ := hk
  unfold fX9_takesOneOf_1_s4
  rw [h.2.1, h.2.2.1]
  by_cases q : a < min t M
  · have := k3 a (by omega)
    rw [if_pos (nI_lt q (by omega)), gd_in (by omega) (by decide), ix_nI (by omega), h.2.2.2 a (by omega), ixof_4 this, bnd_e, if_pos q, h.2.1, nI_1, lt_e]
    by_cases e : so4 (s a) < 0
    · rw [if_pos e, if_pos e]
    · rw [if_neg e, if_neg e]
  · rw [if_neg (nI_nlt (by omega) (by omega)), if_neg q]
theorem cOne_5 (hk : OkT 133 s t M) (h : PC s t M a μ) (ha : a < 2 ^ 30) : fX9_takesOneOf_1_s5 μ = some (if a < min t M then (if so5 (s a) < 0 then (so5 (s a), μ) else (so5 (s a), sI μ 1 2 (nI (a + 1)))) else (-1, μ)) := by
  obtain ⟨k1, k2, k3⟩ := hk
  unfold fX9_takesOneOf_1_s5
  rw [h.2.1, h.2.2.1]
  by_cases q : a < min t M
  · have := k3 a (by omega)
    rw [if_pos (nI_lt q (by omega)), gd_in (by omega) (by decide), ix_nI (by omega), h.2.2.2 a (by omega), ixof_5 this, bnd_e, if_pos q, h.2.1, nI_1, lt_e]
    by_cases e : so5 (s a) < 0
    · rw [if_pos e, if_pos e]
    · rw [if_neg e, if_neg e]
  · rw [if_neg (nI_nlt (by omega) (by omega)), if_neg q]
theorem cOne_6 (hk : OkT 133 s t M) (h : PC s t M a μ) (ha : a < 2 ^ 30) : fX9_takesOneOf_1_s6 μ = some (if a < min t M then (if so6 (s a) < 0 then (so6 (s a), μ) else (so6 (s a), sI μ 1 2 (nI (a + 1)))) else (-1, μ)) := by
  obtain ⟨k1, k2, k3⟩ := hk
  unfold fX9_takesOneOf_1_s6
  rw [h.2.1, h.2.2.1]
  by_cases q : a < min t M
  · have := k3 a (by omega)
    rw [if_pos (nI_lt q (by omega)), gd_in (by omega) (by decide), ix_nI (by omega), h.2.2.2 a (by omega), ixof_6 this, bnd_e, if_pos q, h.2.1, nI_1, lt_e]
    by_cases e : so6 (s a) < 0
    · rw [if_pos e, if_pos e]
    · rw [if_neg e, if_neg e]
  · rw [if_neg (nI_nlt (by omega) (by omega)), if_neg q]
theorem mHere (hk : OkT cl s t M) (h : PM cl s t M a ν) (ha : a < 2 ^ 30) : fX12_here_122 ν = some (if a < min t M then nI (s a) else -1, ν) := by
  obtain ⟨k1, k2, k3⟩ := hk
  unfold fX12_here_122
  rw [h.2.1, h.2.2.1, h.2.2.2.1, h.1]
  by_cases q : a < min t M
  · have hs := k3 a (by omega)
    rw [if_neg (nI_ge (by omega) (by omega)), if_neg (nI_ge (by omega) (by omega)), if_pos q]
    rcases k1 with ⟨rfl, k1⟩ | ⟨rfl, k1⟩
    · rw [if_pos (by decide), gd_in (by omega) (by decide), ix_nI (by omega), h.2.2.2.2.2 a (by omega), byte_255 _ hs]
    · rw [if_neg (by decide), if_pos (by decide), gd_in (by omega) (by decide), ix_nI (by omega), h.2.2.2.2.2 a (by omega), byte_255 _ hs]
  · rw [if_neg q]
    by_cases g : t ≤ a
    · rw [if_pos (nI_le g (by omega))]
    · rw [if_neg (nI_ge (by omega) (by omega)), if_pos (nI_le (by omega) (by omega))]
theorem mFine (h : gI ν 122 22 = -1) : fX12_fine_122 ν = some (1, ν) := by
  unfold fX12_fine_122
  rw [if_pos h]
theorem mFault (h : gI ν 122 22 = -1) (v : Int32) : fX12_fault_122 v ν = some ((), sI ν 122 22 v) := by
  unfold fX12_fault_122
  rw [mFine h, bnd_e, if_neg n10, lt_e]
theorem neg1_nI {x : Nat} (hx : x < 2 ^ 30) : ¬ (-1 : Int32) = nI x := by
  rw [i_eq, nI_toInt (by omega)]
  have : (-1 : Int32).toInt = -1 := by decide
  omega
theorem mPass (hk : OkT cl s t M) (h : PM cl s t M a ν) (ha : a < 2 ^ 30) {x : Nat} (hx : x < 2 ^ 30) : fX12_passes_122 (nI x) ν = some (if a < min t M ∧ s a = x then (1, sI ν 122 21 (nI (a + 1))) else (0, ν)) := by
  unfold fX12_passes_122
  rw [mFine h.2.2.2.2.1, bnd_e, if_neg n10, mHere hk h ha, bnd_e, h.2.2.2.1, nI_1, lt_e]
  by_cases q : a < min t M
  · have := hk.2.2 a (by omega)
    rw [if_pos q]
    by_cases e : s a = x
    · rw [if_pos (by rw [e]), if_pos ⟨q, e⟩]
    · rw [if_neg (by rw [nI_eq (by omega) (by omega)]; exact e), if_neg (fun z => e z.2)]
  · rw [if_neg q, if_neg (neg1_nI hx), if_neg (fun z => q z.1)]
theorem mNeed (hk : OkT cl s t M) (h : PM cl s t M a ν) (ha : a < 2 ^ 30) {x : Nat} (hx : x < 2 ^ 30) : fX12_need_122 (nI x) ν = some ((), if a < min t M ∧ s a = x then sI ν 122 21 (nI (a + 1)) else sI ν 122 22 (nI a)) := by
  unfold fX12_need_122
  rw [mPass hk h ha hx]
  by_cases q : a < min t M ∧ s a = x
  · rw [if_pos q, if_pos q, bnd_e, if_neg n10]
  · rw [if_neg q, if_neg q, bnd_e, if_pos rfl, mFault h.2.2.2.2.1, bnd_e, h.2.2.2.1]
theorem mIn (hk : OkT cl s t M) {f m : Nat} (hf : 1 ≤ f) (hm : f + m ≤ 128) : fX12_in (if a < min t M then nI (s a) else -1) (nI f) (nI f + nI m - 1) ν = some (if a < min t M ∧ f ≤ s a ∧ s a < f + m then 1 else 0, ν) := by
  have e : nI f + nI m - 1 = nI (f + m - 1) := by
    rw [nI_add, show f + m = (f + m - 1) + 1 by omega, nI_pred]
    rfl
  rw [m_in, e]
  by_cases q : a < min t M
  · have := hk.2.2 a (by omega)
    rw [if_pos q]
    by_cases g : f ≤ s a ∧ s a < f + m
    · rw [if_neg, if_pos ⟨q, g⟩]
      rintro (z | z)
      · exact nI_nlt g.1 (by omega) z
      · exact nI_nlt (a := f + m - 1) (by omega) (by omega) z
    · rw [if_pos, if_neg (fun z => g z.2)]
      by_cases g1 : f ≤ s a
      · exact Or.inr (nI_lt (by omega) (by omega))
      · exact Or.inl (nI_lt (by omega) (by omega))
  · rw [if_neg q, if_pos, if_neg (fun z => q z.1)]
    left
    rw [i_lt, nI_toInt (by omega)]
    have : (-1 : Int32).toInt = -1 := by decide
    omega
theorem mOne (hk : OkT cl s t M) (h : PM cl s t M a ν) (ha : a < 2 ^ 30) {f m : Nat} (hf : 1 ≤ f) (hm : f + m ≤ 128) : fX12_oneOf_122 (nI f) (nI m) ν = some (if a < min t M ∧ f ≤ s a ∧ s a < f + m then (nI (s a - f), sI ν 122 21 (nI (a + 1))) else (0, sI ν 122 22 (nI a))) := by
  unfold fX12_oneOf_122
  rw [mFine h.2.2.2.2.1, bnd_e, if_neg n10, mHere hk h ha, bnd_e, mIn hk hf hm, bnd_e]
  by_cases q : a < min t M ∧ f ≤ s a ∧ s a < f + m
  · have h' := h.to hk (a + 1)
    rw [if_pos q, if_neg n10, if_pos q, h.2.2.2.1, nI_1, lt_e, h'.1, h'.2.2.2.1, nI_pred]
    rcases id hk.1 with ⟨rfl, k1⟩ | ⟨rfl, k1⟩
    · rw [if_pos (by decide), gd_in (by omega) (by decide), ix_nI (by omega), h'.2.2.2.2.2 a (by omega), byte_lt _ (by omega), nI_sub (by omega) (by omega)]
    · rw [if_neg (by decide), if_pos (by decide), gd_in (by omega) (by decide), ix_nI (by omega), h'.2.2.2.2.2 a (by omega), byte_lt _ (by omega), nI_sub (by omega) (by omega)]
  · rw [if_neg q, if_pos rfl, if_neg q, mFault h.2.2.2.2.1, bnd_e, h.2.2.2.1]
theorem xFine {w : Nat} (hw : w < 2 ^ 30) (h : gI ν 122 22 = nI w) : fX12_fine_122 ν = some (0, ν) := by
  unfold fX12_fine_122
  rw [h, if_neg (fun z => neg1_nI hw z.symm)]
theorem xFault {w : Nat} (hw : w < 2 ^ 30) (h : gI ν 122 22 = nI w) (v : Int32) : fX12_fault_122 v ν = some ((), ν) := by
  unfold fX12_fault_122
  rw [xFine hw h, bnd_e, if_pos rfl]
theorem xPass {w : Nat} (hw : w < 2 ^ 30) (h : gI ν 122 22 = nI w) (v : Int32) : fX12_passes_122 v ν = some (0, ν) := by
  unfold fX12_passes_122
  rw [xFine hw h, bnd_e, if_pos rfl]
theorem xNeed {w : Nat} (hw : w < 2 ^ 30) (h : gI ν 122 22 = nI w) (v : Int32) : fX12_need_122 v ν = some ((), ν) := by
  unfold fX12_need_122
  rw [xPass hw h, bnd_e, if_pos rfl, xFault hw h, bnd_e]
theorem xOne {w : Nat} (hw : w < 2 ^ 30) (h : gI ν 122 22 = nI w) (v v2 : Int32) : fX12_oneOf_122 v v2 ν = some (0, ν) := by
  unfold fX12_oneOf_122
  rw [xFine hw h, bnd_e, if_pos rfl]
theorem xNum {w : Nat} (hw : w < 2 ^ 30) (h : gI ν 122 22 = nI w) (v : Int32) : fX12_number_122 v ν = some (0, ν) := by
  unfold fX12_number_122
  rw [xOne hw h, bnd_e]
  show fX12_number_122_b11 (999 + 1) _ _ _ _ = _
  rw [fX12_number_122_b11]
  by_cases q : v ≤ 1
  · rw [if_pos q]
  · rw [if_neg q, xFine hw h, bnd_e, if_pos rfl]
theorem xRight {w : Nat} (hw : w < 2 ^ 30) (h : gI ν 122 22 = nI w) : fX12_wasRight_122 ν = some (0, ν) := by
  unfold fX12_wasRight_122 fX12_wasRight_122_b19
  by_cases q : gI ν 122 19 ≤ gI ν 122 21
  · rw [if_pos q, xFine hw h, bnd_e, isZ0, gd_e]
  · rw [if_neg q, xFault hw h, bnd_e, xFine hw h, bnd_e, isZ0, gd_e]
theorem mRight (h : PM cl s t M a ν) (ht : t < 2 ^ 30) (ha : a < 2 ^ 30) : fX12_wasRight_122 ν = some (if t ≤ a then (1, ν) else (0, sI ν 122 22 (nI a))) := by
  unfold fX12_wasRight_122 fX12_wasRight_122_b19
  rw [h.2.1, h.2.2.2.1]
  by_cases q : t ≤ a
  · rw [if_pos (nI_le q (by omega)), mFine h.2.2.2.2.1, bnd_e, isZ1, gd_e, if_pos q]
  · rw [if_neg (nI_ge (by omega) (by omega)), mFault h.2.2.2.2.1, bnd_e, xFine (w := a) ha (by rw [gI_sI, if_pos ⟨rfl, rfl⟩]), bnd_e, isZ0, gd_e, if_neg q]
def nmS (s : Nat → Nat) (st : Nat) : Nat → Nat → Nat → Nat × Nat
  | 0, a, v => (v, a)
  | k + 1, a, v => if a < st ∧ 48 ≤ s a ∧ s a < 58 then nmS s st k (a + 1) (10 * v + (s a - 48)) else (v, a)
theorem nmS_le {st : Nat} : ∀ (k a v : Nat), a ≤ (nmS s st k a v).2 ∧ (a ≤ st → (nmS s st k a v).2 ≤ st) ∧ (v + 1) ≤ (nmS s st k a v).1 + 1 ∧ (nmS s st k a v).1 + 1 ≤ (v + 1) * 10 ^ k
  | 0, a, v => by simp [nmS]
  | k + 1, a, v => by
    rw [nmS]
    by_cases q : a < st ∧ 48 ≤ s a ∧ s a < 58
    · rw [if_pos q]
      obtain ⟨h1, h2, h3, h4⟩ := nmS_le (st := st) k (a + 1) (10 * v + (s a - 48))
      refine ⟨by omega, fun _ => h2 (by omega), by omega, Nat.le_trans h4 ?_⟩
      rw [Nat.pow_succ, Nat.mul_comm (10 ^ k) 10, ← Nat.mul_assoc]
      exact Nat.mul_le_mul_right _ (by omega)
    · rw [if_neg q]
      refine ⟨Nat.le_refl _, fun h => h, Nat.le_refl _, ?_⟩
      exact Nat.le_mul_of_pos_right _ (Nat.pow_pos (by decide))
theorem cNumL (hk : OkT 133 s t M) {d : Nat} (hd : d ≤ 3) : ∀ (k f a v : Nat) (x : Int32) (μ : Mem), PC s t M a μ → a ≤ 80 → k + 1 ≤ d → d - k ≤ 3 → v < 10 ^ (d - k) → ¬ x < 0 → k < f → ∃ μ', fX9_number_1_b12 f (nI d) (nI v) x (nI (d - k)) μ = some (nI (nmS s (min t M) k a v).1, μ') ∧ PC s t M (nmS s (min t M) k a v).2 μ' ∧ Off wA μ μ' := by
  intro k
  induction k with
  | zero =>
    intro f a v x μ h ha h1 h2 h3 h4 h5
    obtain ⟨f, rfl⟩ := Nat.exists_eq_succ_of_ne_zero (show f ≠ 0 by omega)
    rw [fX9_number_1_b12, if_pos (nI_le (by omega) (by omega))]
    exact ⟨μ, rfl, h, Off.refl _⟩
  | succ k ih =>
    intro f a v x μ h ha h1 h2 h3 h4 h5
    obtain ⟨f, rfl⟩ := Nat.exists_eq_succ_of_ne_zero (show f ≠ 0 by omega)
    have hv : v < 1000 := Nat.lt_of_lt_of_le h3 (Nat.pow_le_pow_right (n := 10) (by decide) h2)
    have k2 := hk.2.1
    rw [fX9_number_1_b12, if_neg (nI_ge (by omega) (by omega)), if_neg h4, show fX9_digit_1 (10 : Int32) μ = _ from cDigit hk h (x := 10) (by omega) (by decide), nI_1, show d - (k + 1) + 1 = d - k by omega, nmS]
    by_cases q : a < min t M ∧ 48 ≤ s a ∧ s a < 48 + 10
    · rw [if_pos q, bnd_e, if_pos (nI_pos' (by omega)), lt_e, if_pos q, show nI v * (10 : Int32) + nI (s a - 48) = nI (10 * v + (s a - 48)) from by rw [show (10 : Int32) = nI 10 from rfl, nI_mul, nI_add, Nat.mul_comm]]
      have hp : 10 ^ (d - k) = 10 ^ (d - (k + 1)) * 10 := by rw [← Nat.pow_succ]; congr 1; omega
      obtain ⟨μ', e1, e2, e3⟩ := ih f (a + 1) (10 * v + (s a - 48)) (nI (s a - 48)) _ (h.to (a + 1)) (by omega) (by omega) (by omega) (by omega) (nI_pos (by omega)) (by omega)
      exact ⟨μ', e1, e2, ((Off.refl μ).sI rfl).tr e3⟩
    · rw [if_neg q, bnd_e, if_neg (by decide), if_neg q]
      obtain ⟨f, rfl⟩ := Nat.exists_eq_succ_of_ne_zero (show f ≠ 0 by omega)
      rw [fX9_number_1_b12]
      by_cases g : nI d ≤ nI (d - k)
      · rw [if_pos g]; exact ⟨μ, rfl, h, Off.refl _⟩
      · rw [if_neg g, if_pos (by decide)]; exact ⟨μ, rfl, h, Off.refl _⟩
theorem mNumL (hk : OkT cl s t M) {d : Nat} (hd : d ≤ 3) : ∀ (k f a v : Nat) (ν : Mem), PM cl s t M a ν → a ≤ 80 → k + 1 ≤ d → d - k ≤ 3 → v < 10 ^ (d - k) → k < f → ∃ ν', fX12_number_122_b11 f (nI d) (nI v) (nI (d - k)) ν = some (nI (nmS s (min t M) k a v).1, ν') ∧ PM cl s t M (nmS s (min t M) k a v).2 ν' ∧ Off wB ν ν' := by
  intro k
  induction k with
  | zero =>
    intro f a v ν h ha h1 h2 h3 h5
    obtain ⟨f, rfl⟩ := Nat.exists_eq_succ_of_ne_zero (show f ≠ 0 by omega)
    rw [fX12_number_122_b11, if_pos (nI_le (by omega) (by omega))]
    exact ⟨ν, rfl, h, Off.refl _⟩
  | succ k ih =>
    intro f a v ν h ha h1 h2 h3 h5
    obtain ⟨f, rfl⟩ := Nat.exists_eq_succ_of_ne_zero (show f ≠ 0 by omega)
    have hv : v < 1000 := Nat.lt_of_lt_of_le h3 (Nat.pow_le_pow_right (n := 10) (by decide) h2)
    have k2 := hk.2.1
    rw [fX12_number_122_b11, if_neg (nI_ge (by omega) (by omega)), mFine h.2.2.2.2.1, bnd_e, if_neg n10, mHere hk h (by omega), bnd_e, show fX12_in (if a < min t M then nI (s a) else -1) (48 : Int32) (57 : Int32) ν = _ from mIn (f := 48) (m := 10) hk (by decide) (by decide), bnd_e, nI_1, show d - (k + 1) + 1 = d - k by omega, nmS]
    by_cases q : a < min t M ∧ 48 ≤ s a ∧ s a < 48 + 10
    · rw [if_pos q, if_neg n10, show fX12_oneOf_122 (48 : Int32) (10 : Int32) ν = _ from mOne (f := 48) (m := 10) hk h (by omega) (by decide) (by decide), if_pos q, bnd_e, lt_e, if_pos q, show (10 : Int32) * nI v + nI (s a - 48) = nI (10 * v + (s a - 48)) from by rw [show (10 : Int32) = nI 10 from rfl, nI_mul, nI_add]]
      have hp : 10 ^ (d - k) = 10 ^ (d - (k + 1)) * 10 := by rw [← Nat.pow_succ]; congr 1; omega
      obtain ⟨ν', e1, e2, e3⟩ := ih f (a + 1) (10 * v + (s a - 48)) _ (h.to hk (a + 1)) (by omega) (by omega) (by omega) (by omega) (by omega)
      exact ⟨ν', e1, e2, ((Off.refl ν).sI rfl).tr e3⟩
    · rw [if_neg q, if_pos rfl, if_neg q]
      exact ⟨ν, rfl, h, Off.refl _⟩
theorem cNum (hk : OkT 133 s t M) (h : PC s t M a μ) (ha : a ≤ 80) {d : Nat} (h1 : 1 ≤ d) (hd : d ≤ 3) : (a < min t M ∧ 48 ≤ s a ∧ s a < 58 ∧ ∃ μ', fX9_number_1 (nI d) μ = some (nI (nmS s (min t M) (d - 1) (a + 1) (s a - 48)).1, μ') ∧ PC s t M (nmS s (min t M) (d - 1) (a + 1) (s a - 48)).2 μ' ∧ Off wA μ μ') ∨ (¬ (a < min t M ∧ 48 ≤ s a ∧ s a < 58) ∧ fX9_number_1 (nI d) μ = some (-1, μ)) := by
  have k2 := hk.2.1
  unfold fX9_number_1
  rw [show fX9_digit_1 (10 : Int32) μ = _ from cDigit hk h (x := 10) (by omega) (by decide)]
  by_cases q : a < min t M ∧ 48 ≤ s a ∧ s a < 48 + 10
  · left
    rw [if_pos q, bnd_e]
    have := cNumL hk hd (d - 1) FU (a + 1) (s a - 48) (nI (s a - 48)) _ (h.to (a + 1)) (by omega) (by omega) (by omega) (by rw [show d - (d - 1) = 1 by omega]; omega) (nI_pos (by omega)) (fu_lt (by omega))
    rw [show d - (d - 1) = 1 by omega] at this
    obtain ⟨μ', e1, e2, e3⟩ := this
    exact ⟨q.1, q.2.1, q.2.2, μ', e1, e2, ((Off.refl μ).sI rfl).tr e3⟩
  · right
    refine ⟨q, ?_⟩
    rw [if_neg q, bnd_e]
    show fX9_number_1_b12 (999 + 1) _ _ _ _ _ = _
    rw [fX9_number_1_b12]
    by_cases g : nI d ≤ 1
    · rw [if_pos g]
    · rw [if_neg g, if_pos (by decide)]
theorem mNum (hk : OkT cl s t M) (h : PM cl s t M a ν) (ha : a ≤ 80) {d : Nat} (h1 : 1 ≤ d) (hd : d ≤ 3) : (a < min t M ∧ 48 ≤ s a ∧ s a < 58 ∧ ∃ ν', fX12_number_122 (nI d) ν = some (nI (nmS s (min t M) (d - 1) (a + 1) (s a - 48)).1, ν') ∧ PM cl s t M (nmS s (min t M) (d - 1) (a + 1) (s a - 48)).2 ν' ∧ Off wB ν ν') ∨ (¬ (a < min t M ∧ 48 ≤ s a ∧ s a < 58) ∧ fX12_number_122 (nI d) ν = some (0, sI ν 122 22 (nI a))) := by
  have k2 := hk.2.1
  unfold fX12_number_122
  rw [show fX12_oneOf_122 (48 : Int32) (10 : Int32) ν = _ from mOne (f := 48) (m := 10) hk h (by omega) (by decide) (by decide)]
  by_cases q : a < min t M ∧ 48 ≤ s a ∧ s a < 48 + 10
  · left
    rw [if_pos q, bnd_e]
    have := mNumL hk hd (d - 1) FU (a + 1) (s a - 48) _ (h.to hk (a + 1)) (by omega) (by omega) (by omega) (by rw [show d - (d - 1) = 1 by omega]; omega) (fu_lt (by omega))
    rw [show d - (d - 1) = 1 by omega] at this
    obtain ⟨ν', e1, e2, e3⟩ := this
    exact ⟨q.1, q.2.1, q.2.2, ν', e1, e2, ((Off.refl ν).sI rfl).tr e3⟩
  · right
    refine ⟨q, ?_⟩
    rw [if_neg q, bnd_e]
    show fX12_number_122_b11 (999 + 1) _ _ _ _ = _
    rw [fX12_number_122_b11]
    by_cases g : nI d ≤ 1
    · rw [if_pos g]
    · rw [if_neg g, xFine (w := a) (by omega) (by rw [gI_sI, if_pos ⟨rfl, rfl⟩]), bnd_e, if_pos rfl]
end
end Pure41
