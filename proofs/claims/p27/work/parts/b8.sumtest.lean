/-! the texts of the law; its sum and test -/
def w_104 : List Nat := [112, 97, 112, 101, 114, 32]
theorem x_104 {sh : List am_Sh} {I : am_I} {P : am_P} : xS sh I P (2000 + 11) (3000 + 11) w_104 := by
  refine ⟨?_, by decide, Or.inl ⟨2, _, rfl, rfl, rfl, rfl, ?_⟩⟩
  · show ∀ j, j < w_104.length → w_104.getD j 0 < 128
    decide +kernel
  · show ∀ j, j < w_104.length → (am_tB.getD 2 (0, [])).2.getD j 0 = Int32.ofNat (w_104.getD j 0)
    decide +kernel
theorem wl_104 : w_104.length = 6 := rfl
def w_106 : List Nat := [32, 98, 121, 32]
theorem x_106 {sh : List am_Sh} {I : am_I} {P : am_P} : xS sh I P (2000 + 12) (3000 + 12) w_106 := by
  refine ⟨?_, by decide, Or.inl ⟨3, _, rfl, rfl, rfl, rfl, ?_⟩⟩
  · show ∀ j, j < w_106.length → w_106.getD j 0 < 128
    decide +kernel
  · show ∀ j, j < w_106.length → (am_tB.getD 3 (0, [])).2.getD j 0 = Int32.ofNat (w_106.getD j 0)
    decide +kernel
theorem wl_106 : w_106.length = 4 := rfl
def w_108 : List Nat := [59]
theorem x_108 {sh : List am_Sh} {I : am_I} {P : am_P} : xS sh I P (2000 + 13) (3000 + 13) w_108 := by
  refine ⟨?_, by decide, Or.inl ⟨4, _, rfl, rfl, rfl, rfl, ?_⟩⟩
  · show ∀ j, j < w_108.length → w_108.getD j 0 < 128
    decide +kernel
  · show ∀ j, j < w_108.length → (am_tB.getD 4 (0, [])).2.getD j 0 = Int32.ofNat (w_108.getD j 0)
    decide +kernel
theorem wl_108 : w_108.length = 1 := rfl
def w_118 : List Nat := [111, 99, 116, 97, 118, 101, 32, 111]
theorem x_118 {sh : List am_Sh} {I : am_I} {P : am_P} : xS sh I P (2000 + 14) (3000 + 14) w_118 := by
  refine ⟨?_, by decide, Or.inl ⟨5, _, rfl, rfl, rfl, rfl, ?_⟩⟩
  · show ∀ j, j < w_118.length → w_118.getD j 0 < 128
    decide +kernel
  · show ∀ j, j < w_118.length → (am_tB.getD 5 (0, [])).2.getD j 0 = Int32.ofNat (w_118.getD j 0)
    decide +kernel
theorem wl_118 : w_118.length = 8 := rfl
def w_120 : List Nat := [32, 97, 99, 114, 111, 115, 115, 32]
theorem x_120 {sh : List am_Sh} {I : am_I} {P : am_P} : xS sh I P (2000 + 15) (3000 + 15) w_120 := by
  refine ⟨?_, by decide, Or.inl ⟨6, _, rfl, rfl, rfl, rfl, ?_⟩⟩
  · show ∀ j, j < w_120.length → w_120.getD j 0 < 128
    decide +kernel
  · show ∀ j, j < w_120.length → (am_tB.getD 6 (0, [])).2.getD j 0 = Int32.ofNat (w_120.getD j 0)
    decide +kernel
theorem wl_120 : w_120.length = 8 := rfl
def w_122 : List Nat := [32, 100, 111, 119, 110, 32]
theorem x_122 {sh : List am_Sh} {I : am_I} {P : am_P} : xS sh I P (2000 + 16) (3000 + 16) w_122 := by
  refine ⟨?_, by decide, Or.inl ⟨7, _, rfl, rfl, rfl, rfl, ?_⟩⟩
  · show ∀ j, j < w_122.length → w_122.getD j 0 < 128
    decide +kernel
  · show ∀ j, j < w_122.length → (am_tB.getD 7 (0, [])).2.getD j 0 = Int32.ofNat (w_122.getD j 0)
    decide +kernel
theorem wl_122 : w_122.length = 6 := rfl
def w_124 : List Nat := [32, 115, 116, 114, 101, 110, 103, 116, 104, 32]
theorem x_124 {sh : List am_Sh} {I : am_I} {P : am_P} : xS sh I P (2000 + 17) (3000 + 17) w_124 := by
  refine ⟨?_, by decide, Or.inl ⟨8, _, rfl, rfl, rfl, rfl, ?_⟩⟩
  · show ∀ j, j < w_124.length → w_124.getD j 0 < 128
    decide +kernel
  · show ∀ j, j < w_124.length → (am_tB.getD 8 (0, [])).2.getD j 0 = Int32.ofNat (w_124.getD j 0)
    decide +kernel
theorem wl_124 : w_124.length = 10 := rfl
def w_126 : List Nat := [32, 115, 101, 101, 100, 32]
theorem x_126 {sh : List am_Sh} {I : am_I} {P : am_P} : xS sh I P (2000 + 18) (3000 + 18) w_126 := by
  refine ⟨?_, by decide, Or.inl ⟨9, _, rfl, rfl, rfl, rfl, ?_⟩⟩
  · show ∀ j, j < w_126.length → w_126.getD j 0 < 128
    decide +kernel
  · show ∀ j, j < w_126.length → (am_tB.getD 9 (0, [])).2.getD j 0 = Int32.ofNat (w_126.getD j 0)
    decide +kernel
theorem wl_126 : w_126.length = 6 := rfl
def w_128 : List Nat := [59, 10]
theorem x_128 {sh : List am_Sh} {I : am_I} {P : am_P} : xS sh I P (2000 + 19) (3000 + 19) w_128 := by
  refine ⟨?_, by decide, Or.inl ⟨10, _, rfl, rfl, rfl, rfl, ?_⟩⟩
  · show ∀ j, j < w_128.length → w_128.getD j 0 < 128
    decide +kernel
  · show ∀ j, j < w_128.length → (am_tB.getD 10 (0, [])).2.getD j 0 = Int32.ofNat (w_128.getD j 0)
    decide +kernel
theorem wl_128 : w_128.length = 2 := rfl
def w_130 : List Nat := [99, 111, 109, 98, 32, 99]
theorem x_130 {sh : List am_Sh} {I : am_I} {P : am_P} : xS sh I P (2000 + 20) (3000 + 20) w_130 := by
  refine ⟨?_, by decide, Or.inl ⟨11, _, rfl, rfl, rfl, rfl, ?_⟩⟩
  · show ∀ j, j < w_130.length → w_130.getD j 0 < 128
    decide +kernel
  · show ∀ j, j < w_130.length → (am_tB.getD 11 (0, [])).2.getD j 0 = Int32.ofNat (w_130.getD j 0)
    decide +kernel
theorem wl_130 : w_130.length = 6 := rfl
def w_135 : List Nat := [32, 100, 111, 119, 110]
theorem x_135 {sh : List am_Sh} {I : am_I} {P : am_P} : xS sh I P (2000 + 21) (3000 + 21) w_135 := by
  refine ⟨?_, by decide, Or.inl ⟨12, _, rfl, rfl, rfl, rfl, ?_⟩⟩
  · show ∀ j, j < w_135.length → w_135.getD j 0 < 128
    decide +kernel
  · show ∀ j, j < w_135.length → (am_tB.getD 12 (0, [])).2.getD j 0 = Int32.ofNat (w_135.getD j 0)
    decide +kernel
theorem wl_135 : w_135.length = 5 := rfl
def w_137 : List Nat := [32, 97, 99, 114, 111, 115, 115]
theorem x_137 {sh : List am_Sh} {I : am_I} {P : am_P} : xS sh I P (2000 + 22) (3000 + 22) w_137 := by
  refine ⟨?_, by decide, Or.inl ⟨13, _, rfl, rfl, rfl, rfl, ?_⟩⟩
  · show ∀ j, j < w_137.length → w_137.getD j 0 < 128
    decide +kernel
  · show ∀ j, j < w_137.length → (am_tB.getD 13 (0, [])).2.getD j 0 = Int32.ofNat (w_137.getD j 0)
    decide +kernel
theorem wl_137 : w_137.length = 7 := rfl
def w_139 : List Nat := [32, 116, 101, 101, 116, 104, 32]
theorem x_139 {sh : List am_Sh} {I : am_I} {P : am_P} : xS sh I P (2000 + 23) (3000 + 23) w_139 := by
  refine ⟨?_, by decide, Or.inl ⟨14, _, rfl, rfl, rfl, rfl, ?_⟩⟩
  · show ∀ j, j < w_139.length → w_139.getD j 0 < 128
    decide +kernel
  · show ∀ j, j < w_139.length → (am_tB.getD 14 (0, [])).2.getD j 0 = Int32.ofNat (w_139.getD j 0)
    decide +kernel
theorem wl_139 : w_139.length = 7 := rfl
def w_141 : List Nat := [32, 112, 117, 108, 108, 32]
theorem x_141 {sh : List am_Sh} {I : am_I} {P : am_P} : xS sh I P (2000 + 24) (3000 + 24) w_141 := by
  refine ⟨?_, by decide, Or.inl ⟨15, _, rfl, rfl, rfl, rfl, ?_⟩⟩
  · show ∀ j, j < w_141.length → w_141.getD j 0 < 128
    decide +kernel
  · show ∀ j, j < w_141.length → (am_tB.getD 15 (0, [])).2.getD j 0 = Int32.ofNat (w_141.getD j 0)
    decide +kernel
theorem wl_141 : w_141.length = 6 := rfl
def w_143 : List Nat := [105, 110, 107, 32, 105]
theorem x_143 {sh : List am_Sh} {I : am_I} {P : am_P} : xS sh I P (2000 + 25) (3000 + 25) w_143 := by
  refine ⟨?_, by decide, Or.inl ⟨16, _, rfl, rfl, rfl, rfl, ?_⟩⟩
  · show ∀ j, j < w_143.length → w_143.getD j 0 < 128
    decide +kernel
  · show ∀ j, j < w_143.length → (am_tB.getD 16 (0, [])).2.getD j 0 = Int32.ofNat (w_143.getD j 0)
    decide +kernel
theorem wl_143 : w_143.length = 5 := rfl
def w_145 : List Nat := [32, 102, 114, 111, 109, 32]
theorem x_145 {sh : List am_Sh} {I : am_I} {P : am_P} : xS sh I P (2000 + 26) (3000 + 26) w_145 := by
  refine ⟨?_, by decide, Or.inl ⟨17, _, rfl, rfl, rfl, rfl, ?_⟩⟩
  · show ∀ j, j < w_145.length → w_145.getD j 0 < 128
    decide +kernel
  · show ∀ j, j < w_145.length → (am_tB.getD 17 (0, [])).2.getD j 0 = Int32.ofNat (w_145.getD j 0)
    decide +kernel
theorem wl_145 : w_145.length = 6 := rfl
def w_147 : List Nat := [112, 117, 108, 108, 32, 99]
theorem x_147 {sh : List am_Sh} {I : am_I} {P : am_P} : xS sh I P (2000 + 27) (3000 + 27) w_147 := by
  refine ⟨?_, by decide, Or.inl ⟨18, _, rfl, rfl, rfl, rfl, ?_⟩⟩
  · show ∀ j, j < w_147.length → w_147.getD j 0 < 128
    decide +kernel
  · show ∀ j, j < w_147.length → (am_tB.getD 18 (0, [])).2.getD j 0 = Int32.ofNat (w_147.getD j 0)
    decide +kernel
theorem wl_147 : w_147.length = 6 := rfl
def w_149 : List Nat := [32, 116, 111, 32]
theorem x_149 {sh : List am_Sh} {I : am_I} {P : am_P} : xS sh I P (2000 + 28) (3000 + 28) w_149 := by
  refine ⟨?_, by decide, Or.inl ⟨19, _, rfl, rfl, rfl, rfl, ?_⟩⟩
  · show ∀ j, j < w_149.length → w_149.getD j 0 < 128
    decide +kernel
  · show ∀ j, j < w_149.length → (am_tB.getD 19 (0, [])).2.getD j 0 = Int32.ofNat (w_149.getD j 0)
    decide +kernel
theorem wl_149 : w_149.length = 4 := rfl
def w_151 : List Nat := [115, 101, 101, 100, 32, 111]
theorem x_151 {sh : List am_Sh} {I : am_I} {P : am_P} : xS sh I P (2000 + 29) (3000 + 29) w_151 := by
  refine ⟨?_, by decide, Or.inl ⟨20, _, rfl, rfl, rfl, rfl, ?_⟩⟩
  · show ∀ j, j < w_151.length → w_151.getD j 0 < 128
    decide +kernel
  · show ∀ j, j < w_151.length → (am_tB.getD 20 (0, [])).2.getD j 0 = Int32.ofNat (w_151.getD j 0)
    decide +kernel
theorem wl_151 : w_151.length = 6 := rfl
def w_153 : List Nat := [100, 114, 105, 102, 116, 32, 97, 99, 114, 111, 115, 115, 32, 98, 121, 32]
theorem x_153 {sh : List am_Sh} {I : am_I} {P : am_P} : xS sh I P (2000 + 30) (3000 + 30) w_153 := by
  refine ⟨?_, by decide, Or.inl ⟨21, _, rfl, rfl, rfl, rfl, ?_⟩⟩
  · show ∀ j, j < w_153.length → w_153.getD j 0 < 128
    decide +kernel
  · show ∀ j, j < w_153.length → (am_tB.getD 21 (0, [])).2.getD j 0 = Int32.ofNat (w_153.getD j 0)
    decide +kernel
theorem wl_153 : w_153.length = 16 := rfl
def w_155 : List Nat := [100, 114, 105, 102, 116, 32, 100, 111, 119, 110, 32, 98, 121, 32]
theorem x_155 {sh : List am_Sh} {I : am_I} {P : am_P} : xS sh I P (2000 + 31) (3000 + 31) w_155 := by
  refine ⟨?_, by decide, Or.inl ⟨22, _, rfl, rfl, rfl, rfl, ?_⟩⟩
  · show ∀ j, j < w_155.length → w_155.getD j 0 < 128
    decide +kernel
  · show ∀ j, j < w_155.length → (am_tB.getD 22 (0, [])).2.getD j 0 = Int32.ofNat (w_155.getD j 0)
    decide +kernel
theorem wl_155 : w_155.length = 14 := rfl
def w_35 : List Nat := []
theorem x_35 {sh : List am_Sh} {I : am_I} {P : am_P} : xS sh I P (2000 + 32) (3000 + 32) w_35 := by
  refine ⟨?_, by decide, Or.inl ⟨23, _, rfl, rfl, rfl, rfl, ?_⟩⟩
  · show ∀ j, j < w_35.length → w_35.getD j 0 < 128
    decide +kernel
  · show ∀ j, j < w_35.length → (am_tB.getD 23 (0, [])).2.getD j 0 = Int32.ofNat (w_35.getD j 0)
    decide +kernel
theorem wl_35 : w_35.length = 0 := rfl
def w_48 : List Nat := [100, 105, 112, 42]
theorem x_48 {sh : List am_Sh} {I : am_I} {P : am_P} : xS sh I P (2000 + 33) (3000 + 33) w_48 := by
  refine ⟨?_, by decide, Or.inl ⟨24, _, rfl, rfl, rfl, rfl, ?_⟩⟩
  · show ∀ j, j < w_48.length → w_48.getD j 0 < 128
    decide +kernel
  · show ∀ j, j < w_48.length → (am_tB.getD 24 (0, [])).2.getD j 0 = Int32.ofNat (w_48.getD j 0)
    decide +kernel
theorem wl_48 : w_48.length = 4 := rfl
def w_50 : List Nat := [45, 51]
theorem x_50 {sh : List am_Sh} {I : am_I} {P : am_P} : xS sh I P (2000 + 34) (3000 + 34) w_50 := by
  refine ⟨?_, by decide, Or.inl ⟨25, _, rfl, rfl, rfl, rfl, ?_⟩⟩
  · show ∀ j, j < w_50.length → w_50.getD j 0 < 128
    decide +kernel
  · show ∀ j, j < w_50.length → (am_tB.getD 25 (0, [])).2.getD j 0 = Int32.ofNat (w_50.getD j 0)
    decide +kernel
theorem wl_50 : w_50.length = 2 := rfl
def w_52 : List Nat := [115, 104, 97, 114, 101, 32, 105]
theorem x_52 {sh : List am_Sh} {I : am_I} {P : am_P} : xS sh I P (2000 + 35) (3000 + 35) w_52 := by
  refine ⟨?_, by decide, Or.inl ⟨26, _, rfl, rfl, rfl, rfl, ?_⟩⟩
  · show ∀ j, j < w_52.length → w_52.getD j 0 < 128
    decide +kernel
  · show ∀ j, j < w_52.length → (am_tB.getD 26 (0, [])).2.getD j 0 = Int32.ofNat (w_52.getD j 0)
    decide +kernel
theorem wl_52 : w_52.length = 7 := rfl
def w_60 : List Nat := [47]
theorem x_60 {sh : List am_Sh} {I : am_I} {P : am_P} : xS sh I P (2000 + 36) (3000 + 36) w_60 := by
  refine ⟨?_, by decide, Or.inl ⟨27, _, rfl, rfl, rfl, rfl, ?_⟩⟩
  · show ∀ j, j < w_60.length → w_60.getD j 0 < 128
    decide +kernel
  · show ∀ j, j < w_60.length → (am_tB.getD 27 (0, [])).2.getD j 0 = Int32.ofNat (w_60.getD j 0)
    decide +kernel
theorem wl_60 : w_60.length = 1 := rfl
def w_62 : List Nat := [115, 101, 101, 100, 32, 111, 48, 43]
theorem x_62 {sh : List am_Sh} {I : am_I} {P : am_P} : xS sh I P (2000 + 37) (3000 + 37) w_62 := by
  refine ⟨?_, by decide, Or.inl ⟨28, _, rfl, rfl, rfl, rfl, ?_⟩⟩
  · show ∀ j, j < w_62.length → w_62.getD j 0 < 128
    decide +kernel
  · show ∀ j, j < w_62.length → (am_tB.getD 28 (0, [])).2.getD j 0 = Int32.ofNat (w_62.getD j 0)
    decide +kernel
theorem wl_62 : w_62.length = 8 := rfl
def w_64 : List Nat := [45, 56]
theorem x_64 {sh : List am_Sh} {I : am_I} {P : am_P} : xS sh I P (2000 + 38) (3000 + 38) w_64 := by
  refine ⟨?_, by decide, Or.inl ⟨29, _, rfl, rfl, rfl, rfl, ?_⟩⟩
  · show ∀ j, j < w_64.length → w_64.getD j 0 < 128
    decide +kernel
  · show ∀ j, j < w_64.length → (am_tB.getD 29 (0, [])).2.getD j 0 = Int32.ofNat (w_64.getD j 0)
    decide +kernel
theorem wl_64 : w_64.length = 2 := rfl
def w_66 : List Nat := [104, 101, 105, 103, 104, 116, 40]
theorem x_66 {sh : List am_Sh} {I : am_I} {P : am_P} : xS sh I P (2000 + 39) (3000 + 39) w_66 := by
  refine ⟨?_, by decide, Or.inl ⟨30, _, rfl, rfl, rfl, rfl, ?_⟩⟩
  · show ∀ j, j < w_66.length → w_66.getD j 0 < 128
    decide +kernel
  · show ∀ j, j < w_66.length → (am_tB.getD 30 (0, [])).2.getD j 0 = Int32.ofNat (w_66.getD j 0)
    decide +kernel
theorem wl_66 : w_66.length = 7 := rfl
def w_68 : List Nat := [44, 100, 105, 112, 41, 47, 53, 48]
theorem x_68 {sh : List am_Sh} {I : am_I} {P : am_P} : xS sh I P (2000 + 40) (3000 + 40) w_68 := by
  refine ⟨?_, by decide, Or.inl ⟨31, _, rfl, rfl, rfl, rfl, ?_⟩⟩
  · show ∀ j, j < w_68.length → w_68.getD j 0 < 128
    decide +kernel
  · show ∀ j, j < w_68.length → (am_tB.getD 31 (0, [])).2.getD j 0 = Int32.ofNat (w_68.getD j 0)
    decide +kernel
theorem wl_68 : w_68.length = 8 := rfl
def w_70 : List Nat := [105]
theorem x_70 {sh : List am_Sh} {I : am_I} {P : am_P} : xS sh I P (2000 + 41) (3000 + 41) w_70 := by
  refine ⟨?_, by decide, Or.inl ⟨32, _, rfl, rfl, rfl, rfl, ?_⟩⟩
  · show ∀ j, j < w_70.length → w_70.getD j 0 < 128
    decide +kernel
  · show ∀ j, j < w_70.length → (am_tB.getD 32 (0, [])).2.getD j 0 = Int32.ofNat (w_70.getD j 0)
    decide +kernel
theorem wl_70 : w_70.length = 1 := rfl
def w_72 : List Nat := [32, 119, 104, 101, 110, 32, 100, 105, 112, 45, 100, 105, 112, 47, 51, 42, 51, 61]
theorem x_72 {sh : List am_Sh} {I : am_I} {P : am_P} : xS sh I P (2000 + 42) (3000 + 42) w_72 := by
  refine ⟨?_, by decide, Or.inl ⟨33, _, rfl, rfl, rfl, rfl, ?_⟩⟩
  · show ∀ j, j < w_72.length → w_72.getD j 0 < 128
    decide +kernel
  · show ∀ j, j < w_72.length → (am_tB.getD 33 (0, [])).2.getD j 0 = Int32.ofNat (w_72.getD j 0)
    decide +kernel
theorem wl_72 : w_72.length = 18 := rfl
def w_74 : List Nat := [32, 119, 104, 101, 110, 32, 104, 101, 105, 103, 104, 116, 40, 48, 44, 48, 41, 62, 61]
theorem x_74 {sh : List am_Sh} {I : am_I} {P : am_P} : xS sh I P (2000 + 43) (3000 + 43) w_74 := by
  refine ⟨?_, by decide, Or.inl ⟨34, _, rfl, rfl, rfl, rfl, ?_⟩⟩
  · show ∀ j, j < w_74.length → w_74.getD j 0 < 128
    decide +kernel
  · show ∀ j, j < w_74.length → (am_tB.getD 34 (0, [])).2.getD j 0 = Int32.ofNat (w_74.getD j 0)
    decide +kernel
theorem wl_74 : w_74.length = 19 := rfl
def w_76 : List Nat := [32, 119, 104, 101, 110, 32, 115, 104, 97, 114, 101, 32]
theorem x_76 {sh : List am_Sh} {I : am_I} {P : am_P} : xS sh I P (2000 + 44) (3000 + 44) w_76 := by
  refine ⟨?_, by decide, Or.inl ⟨35, _, rfl, rfl, rfl, rfl, ?_⟩⟩
  · show ∀ j, j < w_76.length → w_76.getD j 0 < 128
    decide +kernel
  · show ∀ j, j < w_76.length → (am_tB.getD 35 (0, [])).2.getD j 0 = Int32.ofNat (w_76.getD j 0)
    decide +kernel
theorem wl_76 : w_76.length = 12 := rfl
def w_78 : List Nat := [60, 61]
theorem x_78 {sh : List am_Sh} {I : am_I} {P : am_P} : xS sh I P (2000 + 45) (3000 + 45) w_78 := by
  refine ⟨?_, by decide, Or.inl ⟨36, _, rfl, rfl, rfl, rfl, ?_⟩⟩
  · show ∀ j, j < w_78.length → w_78.getD j 0 < 128
    decide +kernel
  · show ∀ j, j < w_78.length → (am_tB.getD 36 (0, [])).2.getD j 0 = Int32.ofNat (w_78.getD j 0)
    decide +kernel
theorem wl_78 : w_78.length = 2 := rfl
def w_80 : List Nat := [32, 111, 114, 32, 100, 105, 112, 61, 50]
theorem x_80 {sh : List am_Sh} {I : am_I} {P : am_P} : xS sh I P (2000 + 46) (3000 + 46) w_80 := by
  refine ⟨?_, by decide, Or.inl ⟨37, _, rfl, rfl, rfl, rfl, ?_⟩⟩
  · show ∀ j, j < w_80.length → w_80.getD j 0 < 128
    decide +kernel
  · show ∀ j, j < w_80.length → (am_tB.getD 37 (0, [])).2.getD j 0 = Int32.ofNat (w_80.getD j 0)
    decide +kernel
theorem wl_80 : w_80.length = 9 := rfl
def w_82 : List Nat := [32, 119, 104, 101, 110, 32, 110, 111, 116, 32, 101, 100, 103, 101, 32]
theorem x_82 {sh : List am_Sh} {I : am_I} {P : am_P} : xS sh I P (2000 + 47) (3000 + 47) w_82 := by
  refine ⟨?_, by decide, Or.inl ⟨38, _, rfl, rfl, rfl, rfl, ?_⟩⟩
  · show ∀ j, j < w_82.length → w_82.getD j 0 < 128
    decide +kernel
  · show ∀ j, j < w_82.length → (am_tB.getD 38 (0, [])).2.getD j 0 = Int32.ofNat (w_82.getD j 0)
    decide +kernel
theorem wl_82 : w_82.length = 15 := rfl
def w_84 : List Nat := [32, 97, 110, 100, 32, 115, 101, 101, 100, 32, 111, 48, 60, 57, 48, 48]
theorem x_84 {sh : List am_Sh} {I : am_I} {P : am_P} : xS sh I P (2000 + 48) (3000 + 48) w_84 := by
  refine ⟨?_, by decide, Or.inl ⟨39, _, rfl, rfl, rfl, rfl, ?_⟩⟩
  · show ∀ j, j < w_84.length → w_84.getD j 0 < 128
    decide +kernel
  · show ∀ j, j < w_84.length → (am_tB.getD 39 (0, [])).2.getD j 0 = Int32.ofNat (w_84.getD j 0)
    decide +kernel
theorem wl_84 : w_84.length = 16 := rfl
set_option maxRecDepth 100000 in
theorem cl_32 : Cond.classLink (am_own 15) 32 "java/lang/StringBuilder" ∈ lw_tbl := List.mem_of_getElem? (i := 1483) rfl
/-- a String is answered: a static one, or a new one behind the cells -/
def pStr (sh : List am_Sh) (T : List Nat) (I : am_I) (G : am_G) (P : am_P) : am_PoA := fun r sh' I' G' P' => ∃ q w : Nat, r = some (.ref q) ∧ G' = G ∧ ((sh' = sh ∧ I' = I ∧ P' = P ∧ ∀ (sh2 : List am_Sh) (I2 : am_I) (P2 : am_P), xS sh2 I2 P2 q w T) ∨ (q = sh.length ∧ w = sh.length + 1 ∧ sh' = sh ++ [.inl 0, .inr (4, T.length)] ∧ aT T ∧ T.length ≤ 60 ∧ ∃ f : Nat → Int32, bT T f ∧ I' = am_row (am_row I sh.length (fun _ => 0)) (sh.length + 1) f ∧ P' = am_up (am_z P sh.length .null) sh.length 0 (.ref (sh.length + 1))))
theorem dT_3 (x : Nat) : (dT x).length ≤ 3 := (dT_len x).2
theorem st_nat : ∀ a, a < 3 → (440 : Int32) + (40 : Int32) * Int32.ofNat a = Int32.ofNat (440 + 40 * a) ∧ (30 : Int32) * (Int32.ofNat a + (1 : Int32)) = Int32.ofNat (30 * (a + 1)) := by decide +kernel
/-- a String that stands behind the cells -/
theorem xS_new {sh : List am_Sh} {I : am_I} {P : am_P} {T : List Nat} {f : Nat → Int32} {ex : List am_Sh} {I2 : am_I} {P2 : am_P} (hA : aT T) (hn : T.length ≤ 4096) (hf : bT T f) (hI : ∀ k, k < sh.length + 2 → I2 k = am_row (am_row I sh.length (fun _ => 0)) (sh.length + 1) f k) (hP : ∀ k, k < sh.length + 2 → P2 k = am_up (am_z P sh.length .null) sh.length 0 (.ref (sh.length + 1)) k) : xS (sh ++ [.inl 0, .inr (4, T.length)] ++ ex) I2 P2 sh.length (sh.length + 1) T := by
  refine ⟨hA, hn, Or.inr ⟨?_, ?_, ?_, ?_, ?_⟩⟩
  · rw [List.append_assoc, List.getElem?_append_right (Nat.le_refl _), Nat.sub_self]; rfl
  · rw [List.append_assoc, List.getElem?_append_right (by omega), Nat.add_sub_cancel_left]; rfl
  · rw [hP _ (by omega), am_up_self]
  · rw [hI _ (by omega), am_row_ne _ _ (by omega), am_row_self]
  · rw [hI _ (by omega), am_row_self]; exact hf
theorem lR.str {sh : List am_Sh} {P : am_P} {n : Nat} (hR : lR sh.length sh P) : lR (sh.length + 2) (sh ++ [.inl 0, .inr (4, n)]) (am_up (am_z P sh.length .null) sh.length 0 (.ref (sh.length + 1))) := by
  refine ⟨fun b c j hb hj => ?_, fun b k j hb hj => ?_⟩
  · rcases at2 hb with e | ⟨rfl, -⟩ | ⟨-, e⟩
    · have := am_at_lt e
      rw [am_up_rowb _ _ _ (by omega), am_z_ne _ _ (by omega)]; exact (hR.1 b c j e hj).le (by omega)
    · by_cases h9 : j = 0
      · rw [h9, am_up_self]; exact Or.inl (by omega)
      · rw [am_up_k _ _ h9, am_z_self]; trivial
    · cases e
  · rcases at2 hb with e | ⟨-, e⟩ | ⟨-, e⟩
    · have := am_at_lt e
      rw [am_up_rowb _ _ _ (by omega), am_z_ne _ _ (by omega)]; exact (hR.2 b k j e hj).le (by omega)
    · cases e
    · cases e
section AMTE
variable {sh : List am_Sh} {I : am_I} {G : am_G} {P : am_P} {q w b v m n x : Nat} {T S : List Nat}
set_option maxHeartbeats 2000000 in
theorem s_sum0 {a : Nat} (ha : a < 17) (hq : sh[q]? = some (.inr (0, 6))) (hz : sh[x]? = some (.inl 12)) (hlv : sh[v]? = some (.inr (0, n))) (hPz : P x 4 = .ref v) (hn1 : 1 ≤ n) (hn4 : n ≤ 4) (hl : sh.length + 20 < 1000) (hR : lR sh.length sh P) (h2 : I q 2 = 0) (h3 : I q 3 = Int32.ofNat a) : am_CtA mL_sum 7 12 40000 sh.length sh [.ref q, .ref x] I G P (pStr sh (([] ++ w_35) ++ dT (a)) I G P) := by
  have lq := am_at_lt hq
  have lz := am_at_lt hz
  refine am_ofA (by decide +kernel) rfl (by decide) (by decide) (Nat.le_of_ble_eq_true rfl) (fun X ad hX hi hm => ?_)
  have hi : am_info X 15 cL_sum 3 false (some (FieldType.object "java/lang/String")) 7 := hi
  have hm : am_mem X 12 40000 := hm
  show am_V X _ _ _ sh ad (0, [(0, .ref q), (1, .ref x)], [], I, G, P)
  refine am_blk 0 [(.aload_n 0, 1, 0, 0, .null), (.iconst (3), 1, 0, 0, .int (3 : Int32))] (2, [(0, .ref q), (1, .ref x)], [.int (3 : Int32), .ref q], I, G, P) True hX hi (by decide +kernel) rfl trivial ?_
  refine am_iaS hX hi (v := (Int32.ofNat a)) hq ((i_in _ _).mpr (by decide)) h3 (by decide +kernel) ?_
  refine am_blk 3 [(.istore_n 2, 1, 2, 0, .null), (.aload_n 0, 1, 0, 0, .null), (.iconst (2), 1, 0, 0, .int (2 : Int32))] (6, [(0, .ref q), (1, .ref x), (2, .int (Int32.ofNat a))], [.int (2 : Int32), .ref q], I, G, P) True hX hi (by decide +kernel) rfl trivial ?_
  refine am_iaS hX hi (v := (0 : Int32)) hq ((i_in _ _).mpr (by decide)) h2 (by decide +kernel) ?_
  refine am_tsi hX hi (dflt := 136) (lo := 0) (hi' := 3) (offs := #[29, 49, 74, 111]) (len := 29) (off := (29)) (tgt := 36) (by decide +kernel) (by decide) (by decide) rfl (by decide) ?_
  show am_V X 0 0 _ sh ad (36, [(0, .ref q), (1, .ref x), (2, .int (Int32.ofNat a))], [], I, G, P)
  refine c_new (sh := sh) (i1 := 32) (i2 := 34) hX hi hm cl_32 (by decide +kernel) (by decide +kernel) (by decide +kernel) (by decide +kernel) (by decide) (Nat.le_of_ble_eq_true rfl) ⟨by omega, by omega⟩ (by omega) hR (am_kqL_r (Or.inl (by omega)) (am_kqL_r (Or.inl (by omega)) (am_kqL_i am_kqL_n))) am_kqS_n (fun ad1 I1 G1 P1 ha1 hX1 hc1 => ?_)
  have ea1 : ∀ j, j < sh.length ∨ 1000 ≤ j → ad1 j = ad j := fun j hj => (ha1 j (by omega)).trans ((fun _ _ => rfl) j hj)
  refine am_wid hm (cells' := 2) (slots' := 20) ⟨by omega, by omega⟩ ⟨by omega, by omega⟩ ?_
  show am_V X 2 20 _ (sh ++ [.inl 1, .inr (4, 16)]) ad1 (43, [(0, .ref q), (1, .ref x), (2, .int (Int32.ofNat a))], [.ref sh.length], I1, G1, P1)
  refine am_ldcS hX1 hi (i := 32) (idx := 35) rfl rfl rfl (by decide +kernel) ?_
  refine c_S (sh := sh) hX1 hi hm (idx := 37) (by decide +kernel) (by decide +kernel) (by decide) rfl (Nat.le_of_ble_eq_true rfl) ⟨by omega, by omega⟩ hc1 x_35 (by simp only [List.length_append, List.length_nil, wl_35, wl_48, wl_50, wl_52, wl_60, wl_62, wl_64, wl_66, wl_68, wl_70, wl_72, wl_74, wl_76, wl_78, wl_80, wl_82, wl_84, wl_104, wl_106, wl_108, wl_118, wl_120, wl_122, wl_124, wl_126, wl_128, wl_130, wl_135, wl_137, wl_139, wl_141, wl_143, wl_145, wl_147, wl_149, wl_151, wl_153, wl_155]; omega) (by omega) hR (am_kqL_r (Or.inl (by omega)) (am_kqL_r (Or.inl (by omega)) (am_kqL_i am_kqL_n))) am_kqS_n (fun ad2 m2 I2 ha2 hX2 hc2 => ?_)
  have ea2 : ∀ j, j < sh.length ∨ 1000 ≤ j → ad2 j = ad j := fun j hj => (ha2 j (by omega)).trans (ea1 j hj)
  show am_V X 3 4116 _ (sh ++ [.inl 1, .inr (4, m2)]) ad2 (48, [(0, .ref q), (1, .ref x), (2, .int (Int32.ofNat a))], [.ref sh.length], I2, G1, P1)
  refine am_blk 48 [(.iload_n 2, 1, 2, 0, .null)] (49, [(0, .ref q), (1, .ref x), (2, .int (Int32.ofNat a))], [.int (Int32.ofNat a), .ref sh.length], I2, G1, P1) True hX2 hi (by decide +kernel) rfl trivial ?_
  refine c_N (sh := sh) (x := a) hX2 hi hm (idx := 41) (by decide +kernel) (by decide +kernel) (by decide) (rfl) rfl (Nat.le_of_ble_eq_true rfl) ⟨by omega, by omega⟩ hc2 (by omega) (by simp only [List.length_append, List.length_nil, wl_35, wl_48, wl_50, wl_52, wl_60, wl_62, wl_64, wl_66, wl_68, wl_70, wl_72, wl_74, wl_76, wl_78, wl_80, wl_82, wl_84, wl_104, wl_106, wl_108, wl_118, wl_120, wl_122, wl_124, wl_126, wl_128, wl_130, wl_135, wl_137, wl_139, wl_141, wl_143, wl_145, wl_147, wl_149, wl_151, wl_153, wl_155]; have := dT_3 (a); omega) (by omega) hR (am_kqL_r (Or.inl (by omega)) (am_kqL_r (Or.inl (by omega)) (am_kqL_i am_kqL_n))) am_kqS_n (fun ad3 m3 I3 ha3 hX3 hc3 => ?_)
  have ea3 : ∀ j, j < sh.length ∨ 1000 ≤ j → ad3 j = ad j := fun j hj => (ha3 j (by omega)).trans (ea2 j hj)
  show am_V X 4 8212 _ (sh ++ [.inl 1, .inr (4, m3)]) ad3 (52, [(0, .ref q), (1, .ref x), (2, .int (Int32.ofNat a))], [.ref sh.length], I3, G1, P1)
  have hT4 : (([] ++ w_35) ++ dT (a)).length ≤ 60 := by simp only [List.length_append, List.length_nil, wl_35, wl_48, wl_50, wl_52, wl_60, wl_62, wl_64, wl_66, wl_68, wl_70, wl_72, wl_74, wl_76, wl_78, wl_80, wl_82, wl_84, wl_104, wl_106, wl_108, wl_118, wl_120, wl_122, wl_124, wl_126, wl_128, wl_130, wl_135, wl_137, wl_139, wl_141, wl_143, wl_145, wl_147, wl_149, wl_151, wl_153, wl_155]; have := dT_3 (a); omega
  have aT4 : aT (([] ++ w_35) ++ dT (a)) := hc3.2.1.2.2.2.2.2.2.2.1
  refine c_tos (sh := sh) hX3 hi hm (idx := 44) (by decide +kernel) (by decide +kernel) (by decide) rfl (Nat.le_of_ble_eq_true rfl) ⟨by omega, by omega⟩ hc3 (by omega) hR (am_kqL_r (Or.inl (by omega)) (am_kqL_r (Or.inl (by omega)) (am_kqL_i am_kqL_n))) am_kqS_n (fun ad4 f4 ha4 hX4 hf4 => ?_)
  have ea4 : ∀ j, j < sh.length ∨ 1000 ≤ j → ad4 j = ad j := fun j hj => (ha4 j (by omega)).trans (ea3 j hj)
  refine am_wid hm (cells' := 6) (slots' := 8276) ⟨by omega, by omega⟩ ⟨by omega, by omega⟩ ?_
  show am_V X 6 8276 _ (sh ++ [.inl 0, .inr (4, (([] ++ w_35) ++ dT (a)).length)]) ad4 (55, [(0, .ref q), (1, .ref x), (2, .int (Int32.ofNat a))], [.ref sh.length], (am_row (am_row I sh.length (fun _ => 0)) (sh.length + 1) f4), G, (am_up (am_z P sh.length .null) sh.length 0 (.ref (sh.length + 1))))
  exact am_aretA hX4 hi rfl (by decide +kernel) ea4 ⟨_, _, rfl, rfl, Or.inr ⟨rfl, rfl, rfl, aT4, hT4, f4, hf4, rfl, rfl⟩⟩ ⟨by omega, by omega⟩
set_option maxHeartbeats 2000000 in
theorem s_sum1 {a : Nat} (ha : a < 17) (hq : sh[q]? = some (.inr (0, 6))) (hz : sh[x]? = some (.inl 12)) (hlv : sh[v]? = some (.inr (0, n))) (hPz : P x 4 = .ref v) (hn1 : 1 ≤ n) (hn4 : n ≤ 4) (hl : sh.length + 20 < 1000) (hR : lR sh.length sh P) (h2 : I q 2 = 1) (h3 : I q 3 = Int32.ofNat a) : am_CtA mL_sum 7 12 40000 sh.length sh [.ref q, .ref x] I G P (pStr sh ((([] ++ w_48) ++ dT (a)) ++ w_50) I G P) := by
  have lq := am_at_lt hq
  have lz := am_at_lt hz
  refine am_ofA (by decide +kernel) rfl (by decide) (by decide) (Nat.le_of_ble_eq_true rfl) (fun X ad hX hi hm => ?_)
  have hi : am_info X 15 cL_sum 3 false (some (FieldType.object "java/lang/String")) 7 := hi
  have hm : am_mem X 12 40000 := hm
  show am_V X _ _ _ sh ad (0, [(0, .ref q), (1, .ref x)], [], I, G, P)
  refine am_blk 0 [(.aload_n 0, 1, 0, 0, .null), (.iconst (3), 1, 0, 0, .int (3 : Int32))] (2, [(0, .ref q), (1, .ref x)], [.int (3 : Int32), .ref q], I, G, P) True hX hi (by decide +kernel) rfl trivial ?_
  refine am_iaS hX hi (v := (Int32.ofNat a)) hq ((i_in _ _).mpr (by decide)) h3 (by decide +kernel) ?_
  refine am_blk 3 [(.istore_n 2, 1, 2, 0, .null), (.aload_n 0, 1, 0, 0, .null), (.iconst (2), 1, 0, 0, .int (2 : Int32))] (6, [(0, .ref q), (1, .ref x), (2, .int (Int32.ofNat a))], [.int (2 : Int32), .ref q], I, G, P) True hX hi (by decide +kernel) rfl trivial ?_
  refine am_iaS hX hi (v := (1 : Int32)) hq ((i_in _ _).mpr (by decide)) h2 (by decide +kernel) ?_
  refine am_tsi hX hi (dflt := 136) (lo := 0) (hi' := 3) (offs := #[29, 49, 74, 111]) (len := 29) (off := (49)) (tgt := 56) (by decide +kernel) (by decide) (by decide) rfl (by decide) ?_
  show am_V X 0 0 _ sh ad (56, [(0, .ref q), (1, .ref x), (2, .int (Int32.ofNat a))], [], I, G, P)
  refine c_new (sh := sh) (i1 := 32) (i2 := 34) hX hi hm cl_32 (by decide +kernel) (by decide +kernel) (by decide +kernel) (by decide +kernel) (by decide) (Nat.le_of_ble_eq_true rfl) ⟨by omega, by omega⟩ (by omega) hR (am_kqL_r (Or.inl (by omega)) (am_kqL_r (Or.inl (by omega)) (am_kqL_i am_kqL_n))) am_kqS_n (fun ad1 I1 G1 P1 ha1 hX1 hc1 => ?_)
  have ea1 : ∀ j, j < sh.length ∨ 1000 ≤ j → ad1 j = ad j := fun j hj => (ha1 j (by omega)).trans ((fun _ _ => rfl) j hj)
  refine am_wid hm (cells' := 2) (slots' := 20) ⟨by omega, by omega⟩ ⟨by omega, by omega⟩ ?_
  show am_V X 2 20 _ (sh ++ [.inl 1, .inr (4, 16)]) ad1 (63, [(0, .ref q), (1, .ref x), (2, .int (Int32.ofNat a))], [.ref sh.length], I1, G1, P1)
  refine am_ldcS hX1 hi (i := 33) (idx := 48) rfl rfl rfl (by decide +kernel) ?_
  refine c_S (sh := sh) hX1 hi hm (idx := 37) (by decide +kernel) (by decide +kernel) (by decide) rfl (Nat.le_of_ble_eq_true rfl) ⟨by omega, by omega⟩ hc1 x_48 (by simp only [List.length_append, List.length_nil, wl_35, wl_48, wl_50, wl_52, wl_60, wl_62, wl_64, wl_66, wl_68, wl_70, wl_72, wl_74, wl_76, wl_78, wl_80, wl_82, wl_84, wl_104, wl_106, wl_108, wl_118, wl_120, wl_122, wl_124, wl_126, wl_128, wl_130, wl_135, wl_137, wl_139, wl_141, wl_143, wl_145, wl_147, wl_149, wl_151, wl_153, wl_155]; omega) (by omega) hR (am_kqL_r (Or.inl (by omega)) (am_kqL_r (Or.inl (by omega)) (am_kqL_i am_kqL_n))) am_kqS_n (fun ad2 m2 I2 ha2 hX2 hc2 => ?_)
  have ea2 : ∀ j, j < sh.length ∨ 1000 ≤ j → ad2 j = ad j := fun j hj => (ha2 j (by omega)).trans (ea1 j hj)
  show am_V X 3 4116 _ (sh ++ [.inl 1, .inr (4, m2)]) ad2 (68, [(0, .ref q), (1, .ref x), (2, .int (Int32.ofNat a))], [.ref sh.length], I2, G1, P1)
  refine am_blk 68 [(.iload_n 2, 1, 2, 0, .null)] (69, [(0, .ref q), (1, .ref x), (2, .int (Int32.ofNat a))], [.int (Int32.ofNat a), .ref sh.length], I2, G1, P1) True hX2 hi (by decide +kernel) rfl trivial ?_
  refine c_N (sh := sh) (x := a) hX2 hi hm (idx := 41) (by decide +kernel) (by decide +kernel) (by decide) (rfl) rfl (Nat.le_of_ble_eq_true rfl) ⟨by omega, by omega⟩ hc2 (by omega) (by simp only [List.length_append, List.length_nil, wl_35, wl_48, wl_50, wl_52, wl_60, wl_62, wl_64, wl_66, wl_68, wl_70, wl_72, wl_74, wl_76, wl_78, wl_80, wl_82, wl_84, wl_104, wl_106, wl_108, wl_118, wl_120, wl_122, wl_124, wl_126, wl_128, wl_130, wl_135, wl_137, wl_139, wl_141, wl_143, wl_145, wl_147, wl_149, wl_151, wl_153, wl_155]; have := dT_3 (a); omega) (by omega) hR (am_kqL_r (Or.inl (by omega)) (am_kqL_r (Or.inl (by omega)) (am_kqL_i am_kqL_n))) am_kqS_n (fun ad3 m3 I3 ha3 hX3 hc3 => ?_)
  have ea3 : ∀ j, j < sh.length ∨ 1000 ≤ j → ad3 j = ad j := fun j hj => (ha3 j (by omega)).trans (ea2 j hj)
  show am_V X 4 8212 _ (sh ++ [.inl 1, .inr (4, m3)]) ad3 (72, [(0, .ref q), (1, .ref x), (2, .int (Int32.ofNat a))], [.ref sh.length], I3, G1, P1)
  refine am_ldcS hX3 hi (i := 34) (idx := 50) rfl rfl rfl (by decide +kernel) ?_
  refine c_S (sh := sh) hX3 hi hm (idx := 37) (by decide +kernel) (by decide +kernel) (by decide) rfl (Nat.le_of_ble_eq_true rfl) ⟨by omega, by omega⟩ hc3 x_50 (by simp only [List.length_append, List.length_nil, wl_35, wl_48, wl_50, wl_52, wl_60, wl_62, wl_64, wl_66, wl_68, wl_70, wl_72, wl_74, wl_76, wl_78, wl_80, wl_82, wl_84, wl_104, wl_106, wl_108, wl_118, wl_120, wl_122, wl_124, wl_126, wl_128, wl_130, wl_135, wl_137, wl_139, wl_141, wl_143, wl_145, wl_147, wl_149, wl_151, wl_153, wl_155]; have := dT_3 (a); omega) (by omega) hR (am_kqL_r (Or.inl (by omega)) (am_kqL_r (Or.inl (by omega)) (am_kqL_i am_kqL_n))) am_kqS_n (fun ad4 m4 I4 ha4 hX4 hc4 => ?_)
  have ea4 : ∀ j, j < sh.length ∨ 1000 ≤ j → ad4 j = ad j := fun j hj => (ha4 j (by omega)).trans (ea3 j hj)
  show am_V X 5 12308 _ (sh ++ [.inl 1, .inr (4, m4)]) ad4 (77, [(0, .ref q), (1, .ref x), (2, .int (Int32.ofNat a))], [.ref sh.length], I4, G1, P1)
  have hT5 : ((([] ++ w_48) ++ dT (a)) ++ w_50).length ≤ 60 := by simp only [List.length_append, List.length_nil, wl_35, wl_48, wl_50, wl_52, wl_60, wl_62, wl_64, wl_66, wl_68, wl_70, wl_72, wl_74, wl_76, wl_78, wl_80, wl_82, wl_84, wl_104, wl_106, wl_108, wl_118, wl_120, wl_122, wl_124, wl_126, wl_128, wl_130, wl_135, wl_137, wl_139, wl_141, wl_143, wl_145, wl_147, wl_149, wl_151, wl_153, wl_155]; have := dT_3 (a); omega
  have aT5 : aT ((([] ++ w_48) ++ dT (a)) ++ w_50) := hc4.2.1.2.2.2.2.2.2.2.1
  refine c_tos (sh := sh) hX4 hi hm (idx := 44) (by decide +kernel) (by decide +kernel) (by decide) rfl (Nat.le_of_ble_eq_true rfl) ⟨by omega, by omega⟩ hc4 (by omega) hR (am_kqL_r (Or.inl (by omega)) (am_kqL_r (Or.inl (by omega)) (am_kqL_i am_kqL_n))) am_kqS_n (fun ad5 f5 ha5 hX5 hf5 => ?_)
  have ea5 : ∀ j, j < sh.length ∨ 1000 ≤ j → ad5 j = ad j := fun j hj => (ha5 j (by omega)).trans (ea4 j hj)
  refine am_wid hm (cells' := 7) (slots' := 12372) ⟨by omega, by omega⟩ ⟨by omega, by omega⟩ ?_
  show am_V X 7 12372 _ (sh ++ [.inl 0, .inr (4, ((([] ++ w_48) ++ dT (a)) ++ w_50).length)]) ad5 (80, [(0, .ref q), (1, .ref x), (2, .int (Int32.ofNat a))], [.ref sh.length], (am_row (am_row I sh.length (fun _ => 0)) (sh.length + 1) f5), G, (am_up (am_z P sh.length .null) sh.length 0 (.ref (sh.length + 1))))
  exact am_aretA hX5 hi rfl (by decide +kernel) ea5 ⟨_, _, rfl, rfl, Or.inr ⟨rfl, rfl, rfl, aT5, hT5, f5, hf5, rfl, rfl⟩⟩ ⟨by omega, by omega⟩
set_option maxHeartbeats 2000000 in
theorem s_sum2 {a : Nat} (ha : a < 17) (hq : sh[q]? = some (.inr (0, 6))) (hz : sh[x]? = some (.inl 12)) (hlv : sh[v]? = some (.inr (0, n))) (hPz : P x 4 = .ref v) (hn1 : 1 ≤ n) (hn4 : n ≤ 4) (hl : sh.length + 20 < 1000) (hR : lR sh.length sh P) (h2 : I q 2 = 2) (h3 : I q 3 = Int32.ofNat a) : am_CtA mL_sum 7 12 40000 sh.length sh [.ref q, .ref x] I G P (pStr sh (((([] ++ w_52) ++ dT (n - 1)) ++ w_60) ++ dT (a + 1)) I G P) := by
  have lq := am_at_lt hq
  have lz := am_at_lt hz
  refine am_ofA (by decide +kernel) rfl (by decide) (by decide) (Nat.le_of_ble_eq_true rfl) (fun X ad hX hi hm => ?_)
  have hi : am_info X 15 cL_sum 3 false (some (FieldType.object "java/lang/String")) 7 := hi
  have hm : am_mem X 12 40000 := hm
  show am_V X _ _ _ sh ad (0, [(0, .ref q), (1, .ref x)], [], I, G, P)
  refine am_blk 0 [(.aload_n 0, 1, 0, 0, .null), (.iconst (3), 1, 0, 0, .int (3 : Int32))] (2, [(0, .ref q), (1, .ref x)], [.int (3 : Int32), .ref q], I, G, P) True hX hi (by decide +kernel) rfl trivial ?_
  refine am_iaS hX hi (v := (Int32.ofNat a)) hq ((i_in _ _).mpr (by decide)) h3 (by decide +kernel) ?_
  refine am_blk 3 [(.istore_n 2, 1, 2, 0, .null), (.aload_n 0, 1, 0, 0, .null), (.iconst (2), 1, 0, 0, .int (2 : Int32))] (6, [(0, .ref q), (1, .ref x), (2, .int (Int32.ofNat a))], [.int (2 : Int32), .ref q], I, G, P) True hX hi (by decide +kernel) rfl trivial ?_
  refine am_iaS hX hi (v := (2 : Int32)) hq ((i_in _ _).mpr (by decide)) h2 (by decide +kernel) ?_
  refine am_tsi hX hi (dflt := 136) (lo := 0) (hi' := 3) (offs := #[29, 49, 74, 111]) (len := 29) (off := (74)) (tgt := 81) (by decide +kernel) (by decide) (by decide) rfl (by decide) ?_
  show am_V X 0 0 _ sh ad (81, [(0, .ref q), (1, .ref x), (2, .int (Int32.ofNat a))], [], I, G, P)
  refine c_new (sh := sh) (i1 := 32) (i2 := 34) hX hi hm cl_32 (by decide +kernel) (by decide +kernel) (by decide +kernel) (by decide +kernel) (by decide) (Nat.le_of_ble_eq_true rfl) ⟨by omega, by omega⟩ (by omega) hR (am_kqL_r (Or.inl (by omega)) (am_kqL_r (Or.inl (by omega)) (am_kqL_i am_kqL_n))) am_kqS_n (fun ad1 I1 G1 P1 ha1 hX1 hc1 => ?_)
  have ea1 : ∀ j, j < sh.length ∨ 1000 ≤ j → ad1 j = ad j := fun j hj => (ha1 j (by omega)).trans ((fun _ _ => rfl) j hj)
  refine am_wid hm (cells' := 2) (slots' := 20) ⟨by omega, by omega⟩ ⟨by omega, by omega⟩ ?_
  show am_V X 2 20 _ (sh ++ [.inl 1, .inr (4, 16)]) ad1 (88, [(0, .ref q), (1, .ref x), (2, .int (Int32.ofNat a))], [.ref sh.length], I1, G1, P1)
  refine am_ldcS hX1 hi (i := 35) (idx := 52) rfl rfl rfl (by decide +kernel) ?_
  refine c_S (sh := sh) hX1 hi hm (idx := 37) (by decide +kernel) (by decide +kernel) (by decide) rfl (Nat.le_of_ble_eq_true rfl) ⟨by omega, by omega⟩ hc1 x_52 (by simp only [List.length_append, List.length_nil, wl_35, wl_48, wl_50, wl_52, wl_60, wl_62, wl_64, wl_66, wl_68, wl_70, wl_72, wl_74, wl_76, wl_78, wl_80, wl_82, wl_84, wl_104, wl_106, wl_108, wl_118, wl_120, wl_122, wl_124, wl_126, wl_128, wl_130, wl_135, wl_137, wl_139, wl_141, wl_143, wl_145, wl_147, wl_149, wl_151, wl_153, wl_155]; omega) (by omega) hR (am_kqL_r (Or.inl (by omega)) (am_kqL_r (Or.inl (by omega)) (am_kqL_i am_kqL_n))) am_kqS_n (fun ad2 m2 I2 ha2 hX2 hc2 => ?_)
  have ea2 : ∀ j, j < sh.length ∨ 1000 ≤ j → ad2 j = ad j := fun j hj => (ha2 j (by omega)).trans (ea1 j hj)
  show am_V X 3 4116 _ (sh ++ [.inl 1, .inr (4, m2)]) ad2 (93, [(0, .ref q), (1, .ref x), (2, .int (Int32.ofNat a))], [.ref sh.length], I2, G1, P1)
  refine am_blk 93 [(.aload_n 1, 1, 1, 0, .null)] (94, [(0, .ref q), (1, .ref x), (2, .int (Int32.ofNat a))], [.ref x, .ref sh.length], I2, G1, P1) True hX2 hi (by decide +kernel) rfl trivial ?_
  refine am_gfP hX2 hi (c := 12) (b := 4) (idx := 54) (am_at_app hz) rfl (by decide +kernel) (by rw [(hc2.1 _ lz).2.2]; exact hPz) (by decide +kernel) ?_
  refine am_lenS hX2 hi (am_at_app hlv) (by decide +kernel) ?_
  refine am_blk 98 [(.iconst (1), 1, 0, 0, .int (1 : Int32)), (.isub, 1, 0, 0, .null)] (100, [(0, .ref q), (1, .ref x), (2, .int (Int32.ofNat a))], [.int ((Int32.ofNat n) - (1 : Int32)), .ref sh.length], I2, G1, P1) True hX2 hi (by decide +kernel) rfl trivial ?_
  refine c_N (sh := sh) (x := n - 1) hX2 hi hm (idx := 41) (by decide +kernel) (by decide +kernel) (by decide) (pk_sub (a := n) (b := 1) (by omega)) rfl (Nat.le_of_ble_eq_true rfl) ⟨by omega, by omega⟩ hc2 (by omega) (by simp only [List.length_append, List.length_nil, wl_35, wl_48, wl_50, wl_52, wl_60, wl_62, wl_64, wl_66, wl_68, wl_70, wl_72, wl_74, wl_76, wl_78, wl_80, wl_82, wl_84, wl_104, wl_106, wl_108, wl_118, wl_120, wl_122, wl_124, wl_126, wl_128, wl_130, wl_135, wl_137, wl_139, wl_141, wl_143, wl_145, wl_147, wl_149, wl_151, wl_153, wl_155]; have := dT_3 (n - 1); omega) (by omega) hR (am_kqL_r (Or.inl (by omega)) (am_kqL_r (Or.inl (by omega)) (am_kqL_i am_kqL_n))) am_kqS_n (fun ad3 m3 I3 ha3 hX3 hc3 => ?_)
  have ea3 : ∀ j, j < sh.length ∨ 1000 ≤ j → ad3 j = ad j := fun j hj => (ha3 j (by omega)).trans (ea2 j hj)
  show am_V X 4 8212 _ (sh ++ [.inl 1, .inr (4, m3)]) ad3 (103, [(0, .ref q), (1, .ref x), (2, .int (Int32.ofNat a))], [.ref sh.length], I3, G1, P1)
  refine am_ldcS hX3 hi (i := 36) (idx := 60) rfl rfl rfl (by decide +kernel) ?_
  refine c_S (sh := sh) hX3 hi hm (idx := 37) (by decide +kernel) (by decide +kernel) (by decide) rfl (Nat.le_of_ble_eq_true rfl) ⟨by omega, by omega⟩ hc3 x_60 (by simp only [List.length_append, List.length_nil, wl_35, wl_48, wl_50, wl_52, wl_60, wl_62, wl_64, wl_66, wl_68, wl_70, wl_72, wl_74, wl_76, wl_78, wl_80, wl_82, wl_84, wl_104, wl_106, wl_108, wl_118, wl_120, wl_122, wl_124, wl_126, wl_128, wl_130, wl_135, wl_137, wl_139, wl_141, wl_143, wl_145, wl_147, wl_149, wl_151, wl_153, wl_155]; have := dT_3 (n - 1); omega) (by omega) hR (am_kqL_r (Or.inl (by omega)) (am_kqL_r (Or.inl (by omega)) (am_kqL_i am_kqL_n))) am_kqS_n (fun ad4 m4 I4 ha4 hX4 hc4 => ?_)
  have ea4 : ∀ j, j < sh.length ∨ 1000 ≤ j → ad4 j = ad j := fun j hj => (ha4 j (by omega)).trans (ea3 j hj)
  show am_V X 5 12308 _ (sh ++ [.inl 1, .inr (4, m4)]) ad4 (108, [(0, .ref q), (1, .ref x), (2, .int (Int32.ofNat a))], [.ref sh.length], I4, G1, P1)
  refine am_blk 108 [(.iload_n 2, 1, 2, 0, .null), (.iconst (1), 1, 0, 0, .int (1 : Int32)), (.iadd, 1, 0, 0, .null)] (111, [(0, .ref q), (1, .ref x), (2, .int (Int32.ofNat a))], [.int ((Int32.ofNat a) + (1 : Int32)), .ref sh.length], I4, G1, P1) True hX4 hi (by decide +kernel) rfl trivial ?_
  refine c_N (sh := sh) (x := a + 1) hX4 hi hm (idx := 41) (by decide +kernel) (by decide +kernel) (by decide) (nI_1 a) rfl (Nat.le_of_ble_eq_true rfl) ⟨by omega, by omega⟩ hc4 (by omega) (by simp only [List.length_append, List.length_nil, wl_35, wl_48, wl_50, wl_52, wl_60, wl_62, wl_64, wl_66, wl_68, wl_70, wl_72, wl_74, wl_76, wl_78, wl_80, wl_82, wl_84, wl_104, wl_106, wl_108, wl_118, wl_120, wl_122, wl_124, wl_126, wl_128, wl_130, wl_135, wl_137, wl_139, wl_141, wl_143, wl_145, wl_147, wl_149, wl_151, wl_153, wl_155]; have := dT_3 (n - 1); have := dT_3 (a + 1); omega) (by omega) hR (am_kqL_r (Or.inl (by omega)) (am_kqL_r (Or.inl (by omega)) (am_kqL_i am_kqL_n))) am_kqS_n (fun ad5 m5 I5 ha5 hX5 hc5 => ?_)
  have ea5 : ∀ j, j < sh.length ∨ 1000 ≤ j → ad5 j = ad j := fun j hj => (ha5 j (by omega)).trans (ea4 j hj)
  show am_V X 6 16404 _ (sh ++ [.inl 1, .inr (4, m5)]) ad5 (114, [(0, .ref q), (1, .ref x), (2, .int (Int32.ofNat a))], [.ref sh.length], I5, G1, P1)
  have hT6 : (((([] ++ w_52) ++ dT (n - 1)) ++ w_60) ++ dT (a + 1)).length ≤ 60 := by simp only [List.length_append, List.length_nil, wl_35, wl_48, wl_50, wl_52, wl_60, wl_62, wl_64, wl_66, wl_68, wl_70, wl_72, wl_74, wl_76, wl_78, wl_80, wl_82, wl_84, wl_104, wl_106, wl_108, wl_118, wl_120, wl_122, wl_124, wl_126, wl_128, wl_130, wl_135, wl_137, wl_139, wl_141, wl_143, wl_145, wl_147, wl_149, wl_151, wl_153, wl_155]; have := dT_3 (n - 1); have := dT_3 (a + 1); omega
  have aT6 : aT (((([] ++ w_52) ++ dT (n - 1)) ++ w_60) ++ dT (a + 1)) := hc5.2.1.2.2.2.2.2.2.2.1
  refine c_tos (sh := sh) hX5 hi hm (idx := 44) (by decide +kernel) (by decide +kernel) (by decide) rfl (Nat.le_of_ble_eq_true rfl) ⟨by omega, by omega⟩ hc5 (by omega) hR (am_kqL_r (Or.inl (by omega)) (am_kqL_r (Or.inl (by omega)) (am_kqL_i am_kqL_n))) am_kqS_n (fun ad6 f6 ha6 hX6 hf6 => ?_)
  have ea6 : ∀ j, j < sh.length ∨ 1000 ≤ j → ad6 j = ad j := fun j hj => (ha6 j (by omega)).trans (ea5 j hj)
  refine am_wid hm (cells' := 8) (slots' := 16468) ⟨by omega, by omega⟩ ⟨by omega, by omega⟩ ?_
  show am_V X 8 16468 _ (sh ++ [.inl 0, .inr (4, (((([] ++ w_52) ++ dT (n - 1)) ++ w_60) ++ dT (a + 1)).length)]) ad6 (117, [(0, .ref q), (1, .ref x), (2, .int (Int32.ofNat a))], [.ref sh.length], (am_row (am_row I sh.length (fun _ => 0)) (sh.length + 1) f6), G, (am_up (am_z P sh.length .null) sh.length 0 (.ref (sh.length + 1))))
  exact am_aretA hX6 hi rfl (by decide +kernel) ea6 ⟨_, _, rfl, rfl, Or.inr ⟨rfl, rfl, rfl, aT6, hT6, f6, hf6, rfl, rfl⟩⟩ ⟨by omega, by omega⟩
set_option maxHeartbeats 2000000 in
theorem s_sum3 {a : Nat} (ha : a < 17) (hq : sh[q]? = some (.inr (0, 6))) (hz : sh[x]? = some (.inl 12)) (hlv : sh[v]? = some (.inr (0, n))) (hPz : P x 4 = .ref v) (hn1 : 1 ≤ n) (hn4 : n ≤ 4) (hl : sh.length + 20 < 1000) (hR : lR sh.length sh P) (h2 : I q 2 = 3) (h3 : I q 3 = Int32.ofNat a) : am_CtA mL_sum 7 12 40000 sh.length sh [.ref q, .ref x] I G P (pStr sh ((([] ++ w_62) ++ dT (a)) ++ w_64) I G P) := by
  have lq := am_at_lt hq
  have lz := am_at_lt hz
  refine am_ofA (by decide +kernel) rfl (by decide) (by decide) (Nat.le_of_ble_eq_true rfl) (fun X ad hX hi hm => ?_)
  have hi : am_info X 15 cL_sum 3 false (some (FieldType.object "java/lang/String")) 7 := hi
  have hm : am_mem X 12 40000 := hm
  show am_V X _ _ _ sh ad (0, [(0, .ref q), (1, .ref x)], [], I, G, P)
  refine am_blk 0 [(.aload_n 0, 1, 0, 0, .null), (.iconst (3), 1, 0, 0, .int (3 : Int32))] (2, [(0, .ref q), (1, .ref x)], [.int (3 : Int32), .ref q], I, G, P) True hX hi (by decide +kernel) rfl trivial ?_
  refine am_iaS hX hi (v := (Int32.ofNat a)) hq ((i_in _ _).mpr (by decide)) h3 (by decide +kernel) ?_
  refine am_blk 3 [(.istore_n 2, 1, 2, 0, .null), (.aload_n 0, 1, 0, 0, .null), (.iconst (2), 1, 0, 0, .int (2 : Int32))] (6, [(0, .ref q), (1, .ref x), (2, .int (Int32.ofNat a))], [.int (2 : Int32), .ref q], I, G, P) True hX hi (by decide +kernel) rfl trivial ?_
  refine am_iaS hX hi (v := (3 : Int32)) hq ((i_in _ _).mpr (by decide)) h2 (by decide +kernel) ?_
  refine am_tsi hX hi (dflt := 136) (lo := 0) (hi' := 3) (offs := #[29, 49, 74, 111]) (len := 29) (off := (111)) (tgt := 118) (by decide +kernel) (by decide) (by decide) rfl (by decide) ?_
  show am_V X 0 0 _ sh ad (118, [(0, .ref q), (1, .ref x), (2, .int (Int32.ofNat a))], [], I, G, P)
  refine c_new (sh := sh) (i1 := 32) (i2 := 34) hX hi hm cl_32 (by decide +kernel) (by decide +kernel) (by decide +kernel) (by decide +kernel) (by decide) (Nat.le_of_ble_eq_true rfl) ⟨by omega, by omega⟩ (by omega) hR (am_kqL_r (Or.inl (by omega)) (am_kqL_r (Or.inl (by omega)) (am_kqL_i am_kqL_n))) am_kqS_n (fun ad1 I1 G1 P1 ha1 hX1 hc1 => ?_)
  have ea1 : ∀ j, j < sh.length ∨ 1000 ≤ j → ad1 j = ad j := fun j hj => (ha1 j (by omega)).trans ((fun _ _ => rfl) j hj)
  refine am_wid hm (cells' := 2) (slots' := 20) ⟨by omega, by omega⟩ ⟨by omega, by omega⟩ ?_
  show am_V X 2 20 _ (sh ++ [.inl 1, .inr (4, 16)]) ad1 (125, [(0, .ref q), (1, .ref x), (2, .int (Int32.ofNat a))], [.ref sh.length], I1, G1, P1)
  refine am_ldcS hX1 hi (i := 37) (idx := 62) rfl rfl rfl (by decide +kernel) ?_
  refine c_S (sh := sh) hX1 hi hm (idx := 37) (by decide +kernel) (by decide +kernel) (by decide) rfl (Nat.le_of_ble_eq_true rfl) ⟨by omega, by omega⟩ hc1 x_62 (by simp only [List.length_append, List.length_nil, wl_35, wl_48, wl_50, wl_52, wl_60, wl_62, wl_64, wl_66, wl_68, wl_70, wl_72, wl_74, wl_76, wl_78, wl_80, wl_82, wl_84, wl_104, wl_106, wl_108, wl_118, wl_120, wl_122, wl_124, wl_126, wl_128, wl_130, wl_135, wl_137, wl_139, wl_141, wl_143, wl_145, wl_147, wl_149, wl_151, wl_153, wl_155]; omega) (by omega) hR (am_kqL_r (Or.inl (by omega)) (am_kqL_r (Or.inl (by omega)) (am_kqL_i am_kqL_n))) am_kqS_n (fun ad2 m2 I2 ha2 hX2 hc2 => ?_)
  have ea2 : ∀ j, j < sh.length ∨ 1000 ≤ j → ad2 j = ad j := fun j hj => (ha2 j (by omega)).trans (ea1 j hj)
  show am_V X 3 4116 _ (sh ++ [.inl 1, .inr (4, m2)]) ad2 (130, [(0, .ref q), (1, .ref x), (2, .int (Int32.ofNat a))], [.ref sh.length], I2, G1, P1)
  refine am_blk 130 [(.iload_n 2, 1, 2, 0, .null)] (131, [(0, .ref q), (1, .ref x), (2, .int (Int32.ofNat a))], [.int (Int32.ofNat a), .ref sh.length], I2, G1, P1) True hX2 hi (by decide +kernel) rfl trivial ?_
  refine c_N (sh := sh) (x := a) hX2 hi hm (idx := 41) (by decide +kernel) (by decide +kernel) (by decide) (rfl) rfl (Nat.le_of_ble_eq_true rfl) ⟨by omega, by omega⟩ hc2 (by omega) (by simp only [List.length_append, List.length_nil, wl_35, wl_48, wl_50, wl_52, wl_60, wl_62, wl_64, wl_66, wl_68, wl_70, wl_72, wl_74, wl_76, wl_78, wl_80, wl_82, wl_84, wl_104, wl_106, wl_108, wl_118, wl_120, wl_122, wl_124, wl_126, wl_128, wl_130, wl_135, wl_137, wl_139, wl_141, wl_143, wl_145, wl_147, wl_149, wl_151, wl_153, wl_155]; have := dT_3 (a); omega) (by omega) hR (am_kqL_r (Or.inl (by omega)) (am_kqL_r (Or.inl (by omega)) (am_kqL_i am_kqL_n))) am_kqS_n (fun ad3 m3 I3 ha3 hX3 hc3 => ?_)
  have ea3 : ∀ j, j < sh.length ∨ 1000 ≤ j → ad3 j = ad j := fun j hj => (ha3 j (by omega)).trans (ea2 j hj)
  show am_V X 4 8212 _ (sh ++ [.inl 1, .inr (4, m3)]) ad3 (134, [(0, .ref q), (1, .ref x), (2, .int (Int32.ofNat a))], [.ref sh.length], I3, G1, P1)
  refine am_ldcS hX3 hi (i := 38) (idx := 64) rfl rfl rfl (by decide +kernel) ?_
  refine c_S (sh := sh) hX3 hi hm (idx := 37) (by decide +kernel) (by decide +kernel) (by decide) rfl (Nat.le_of_ble_eq_true rfl) ⟨by omega, by omega⟩ hc3 x_64 (by simp only [List.length_append, List.length_nil, wl_35, wl_48, wl_50, wl_52, wl_60, wl_62, wl_64, wl_66, wl_68, wl_70, wl_72, wl_74, wl_76, wl_78, wl_80, wl_82, wl_84, wl_104, wl_106, wl_108, wl_118, wl_120, wl_122, wl_124, wl_126, wl_128, wl_130, wl_135, wl_137, wl_139, wl_141, wl_143, wl_145, wl_147, wl_149, wl_151, wl_153, wl_155]; have := dT_3 (a); omega) (by omega) hR (am_kqL_r (Or.inl (by omega)) (am_kqL_r (Or.inl (by omega)) (am_kqL_i am_kqL_n))) am_kqS_n (fun ad4 m4 I4 ha4 hX4 hc4 => ?_)
  have ea4 : ∀ j, j < sh.length ∨ 1000 ≤ j → ad4 j = ad j := fun j hj => (ha4 j (by omega)).trans (ea3 j hj)
  show am_V X 5 12308 _ (sh ++ [.inl 1, .inr (4, m4)]) ad4 (139, [(0, .ref q), (1, .ref x), (2, .int (Int32.ofNat a))], [.ref sh.length], I4, G1, P1)
  have hT5 : ((([] ++ w_62) ++ dT (a)) ++ w_64).length ≤ 60 := by simp only [List.length_append, List.length_nil, wl_35, wl_48, wl_50, wl_52, wl_60, wl_62, wl_64, wl_66, wl_68, wl_70, wl_72, wl_74, wl_76, wl_78, wl_80, wl_82, wl_84, wl_104, wl_106, wl_108, wl_118, wl_120, wl_122, wl_124, wl_126, wl_128, wl_130, wl_135, wl_137, wl_139, wl_141, wl_143, wl_145, wl_147, wl_149, wl_151, wl_153, wl_155]; have := dT_3 (a); omega
  have aT5 : aT ((([] ++ w_62) ++ dT (a)) ++ w_64) := hc4.2.1.2.2.2.2.2.2.2.1
  refine c_tos (sh := sh) hX4 hi hm (idx := 44) (by decide +kernel) (by decide +kernel) (by decide) rfl (Nat.le_of_ble_eq_true rfl) ⟨by omega, by omega⟩ hc4 (by omega) hR (am_kqL_r (Or.inl (by omega)) (am_kqL_r (Or.inl (by omega)) (am_kqL_i am_kqL_n))) am_kqS_n (fun ad5 f5 ha5 hX5 hf5 => ?_)
  have ea5 : ∀ j, j < sh.length ∨ 1000 ≤ j → ad5 j = ad j := fun j hj => (ha5 j (by omega)).trans (ea4 j hj)
  refine am_wid hm (cells' := 7) (slots' := 12372) ⟨by omega, by omega⟩ ⟨by omega, by omega⟩ ?_
  show am_V X 7 12372 _ (sh ++ [.inl 0, .inr (4, ((([] ++ w_62) ++ dT (a)) ++ w_64).length)]) ad5 (142, [(0, .ref q), (1, .ref x), (2, .int (Int32.ofNat a))], [.ref sh.length], (am_row (am_row I sh.length (fun _ => 0)) (sh.length + 1) f5), G, (am_up (am_z P sh.length .null) sh.length 0 (.ref (sh.length + 1))))
  exact am_aretA hX5 hi rfl (by decide +kernel) ea5 ⟨_, _, rfl, rfl, Or.inr ⟨rfl, rfl, rfl, aT5, hT5, f5, hf5, rfl, rfl⟩⟩ ⟨by omega, by omega⟩
set_option maxHeartbeats 2000000 in
theorem s_sum4 {a : Nat} (ha : a < 17) (hq : sh[q]? = some (.inr (0, 6))) (hz : sh[x]? = some (.inl 12)) (hlv : sh[v]? = some (.inr (0, n))) (hPz : P x 4 = .ref v) (hn1 : 1 ≤ n) (hn4 : n ≤ 4) (hl : sh.length + 20 < 1000) (hR : lR sh.length sh P) (h2 : I q 2 = 4) (h3 : I q 3 = Int32.ofNat a) : am_CtA mL_sum 7 12 40000 sh.length sh [.ref q, .ref x] I G P (pStr sh ((([] ++ w_66) ++ dT (a)) ++ w_68) I G P) := by
  have lq := am_at_lt hq
  have lz := am_at_lt hz
  refine am_ofA (by decide +kernel) rfl (by decide) (by decide) (Nat.le_of_ble_eq_true rfl) (fun X ad hX hi hm => ?_)
  have hi : am_info X 15 cL_sum 3 false (some (FieldType.object "java/lang/String")) 7 := hi
  have hm : am_mem X 12 40000 := hm
  show am_V X _ _ _ sh ad (0, [(0, .ref q), (1, .ref x)], [], I, G, P)
  refine am_blk 0 [(.aload_n 0, 1, 0, 0, .null), (.iconst (3), 1, 0, 0, .int (3 : Int32))] (2, [(0, .ref q), (1, .ref x)], [.int (3 : Int32), .ref q], I, G, P) True hX hi (by decide +kernel) rfl trivial ?_
  refine am_iaS hX hi (v := (Int32.ofNat a)) hq ((i_in _ _).mpr (by decide)) h3 (by decide +kernel) ?_
  refine am_blk 3 [(.istore_n 2, 1, 2, 0, .null), (.aload_n 0, 1, 0, 0, .null), (.iconst (2), 1, 0, 0, .int (2 : Int32))] (6, [(0, .ref q), (1, .ref x), (2, .int (Int32.ofNat a))], [.int (2 : Int32), .ref q], I, G, P) True hX hi (by decide +kernel) rfl trivial ?_
  refine am_iaS hX hi (v := (4 : Int32)) hq ((i_in _ _).mpr (by decide)) h2 (by decide +kernel) ?_
  refine am_tso hX hi (dflt := 136) (lo := 0) (hi' := 3) (offs := #[29, 49, 74, 111]) (len := 29) (tgt := 143) (by decide +kernel) (Or.inr (by decide)) (by decide) ?_
  show am_V X 0 0 _ sh ad (143, [(0, .ref q), (1, .ref x), (2, .int (Int32.ofNat a))], [], I, G, P)
  refine c_new (sh := sh) (i1 := 32) (i2 := 34) hX hi hm cl_32 (by decide +kernel) (by decide +kernel) (by decide +kernel) (by decide +kernel) (by decide) (Nat.le_of_ble_eq_true rfl) ⟨by omega, by omega⟩ (by omega) hR (am_kqL_r (Or.inl (by omega)) (am_kqL_r (Or.inl (by omega)) (am_kqL_i am_kqL_n))) am_kqS_n (fun ad1 I1 G1 P1 ha1 hX1 hc1 => ?_)
  have ea1 : ∀ j, j < sh.length ∨ 1000 ≤ j → ad1 j = ad j := fun j hj => (ha1 j (by omega)).trans ((fun _ _ => rfl) j hj)
  refine am_wid hm (cells' := 2) (slots' := 20) ⟨by omega, by omega⟩ ⟨by omega, by omega⟩ ?_
  show am_V X 2 20 _ (sh ++ [.inl 1, .inr (4, 16)]) ad1 (150, [(0, .ref q), (1, .ref x), (2, .int (Int32.ofNat a))], [.ref sh.length], I1, G1, P1)
  refine am_ldcS hX1 hi (i := 39) (idx := 66) rfl rfl rfl (by decide +kernel) ?_
  refine c_S (sh := sh) hX1 hi hm (idx := 37) (by decide +kernel) (by decide +kernel) (by decide) rfl (Nat.le_of_ble_eq_true rfl) ⟨by omega, by omega⟩ hc1 x_66 (by simp only [List.length_append, List.length_nil, wl_35, wl_48, wl_50, wl_52, wl_60, wl_62, wl_64, wl_66, wl_68, wl_70, wl_72, wl_74, wl_76, wl_78, wl_80, wl_82, wl_84, wl_104, wl_106, wl_108, wl_118, wl_120, wl_122, wl_124, wl_126, wl_128, wl_130, wl_135, wl_137, wl_139, wl_141, wl_143, wl_145, wl_147, wl_149, wl_151, wl_153, wl_155]; omega) (by omega) hR (am_kqL_r (Or.inl (by omega)) (am_kqL_r (Or.inl (by omega)) (am_kqL_i am_kqL_n))) am_kqS_n (fun ad2 m2 I2 ha2 hX2 hc2 => ?_)
  have ea2 : ∀ j, j < sh.length ∨ 1000 ≤ j → ad2 j = ad j := fun j hj => (ha2 j (by omega)).trans (ea1 j hj)
  show am_V X 3 4116 _ (sh ++ [.inl 1, .inr (4, m2)]) ad2 (155, [(0, .ref q), (1, .ref x), (2, .int (Int32.ofNat a))], [.ref sh.length], I2, G1, P1)
  refine am_blk 155 [(.iload_n 2, 1, 2, 0, .null)] (156, [(0, .ref q), (1, .ref x), (2, .int (Int32.ofNat a))], [.int (Int32.ofNat a), .ref sh.length], I2, G1, P1) True hX2 hi (by decide +kernel) rfl trivial ?_
  refine c_N (sh := sh) (x := a) hX2 hi hm (idx := 41) (by decide +kernel) (by decide +kernel) (by decide) (rfl) rfl (Nat.le_of_ble_eq_true rfl) ⟨by omega, by omega⟩ hc2 (by omega) (by simp only [List.length_append, List.length_nil, wl_35, wl_48, wl_50, wl_52, wl_60, wl_62, wl_64, wl_66, wl_68, wl_70, wl_72, wl_74, wl_76, wl_78, wl_80, wl_82, wl_84, wl_104, wl_106, wl_108, wl_118, wl_120, wl_122, wl_124, wl_126, wl_128, wl_130, wl_135, wl_137, wl_139, wl_141, wl_143, wl_145, wl_147, wl_149, wl_151, wl_153, wl_155]; have := dT_3 (a); omega) (by omega) hR (am_kqL_r (Or.inl (by omega)) (am_kqL_r (Or.inl (by omega)) (am_kqL_i am_kqL_n))) am_kqS_n (fun ad3 m3 I3 ha3 hX3 hc3 => ?_)
  have ea3 : ∀ j, j < sh.length ∨ 1000 ≤ j → ad3 j = ad j := fun j hj => (ha3 j (by omega)).trans (ea2 j hj)
  show am_V X 4 8212 _ (sh ++ [.inl 1, .inr (4, m3)]) ad3 (159, [(0, .ref q), (1, .ref x), (2, .int (Int32.ofNat a))], [.ref sh.length], I3, G1, P1)
  refine am_ldcS hX3 hi (i := 40) (idx := 68) rfl rfl rfl (by decide +kernel) ?_
  refine c_S (sh := sh) hX3 hi hm (idx := 37) (by decide +kernel) (by decide +kernel) (by decide) rfl (Nat.le_of_ble_eq_true rfl) ⟨by omega, by omega⟩ hc3 x_68 (by simp only [List.length_append, List.length_nil, wl_35, wl_48, wl_50, wl_52, wl_60, wl_62, wl_64, wl_66, wl_68, wl_70, wl_72, wl_74, wl_76, wl_78, wl_80, wl_82, wl_84, wl_104, wl_106, wl_108, wl_118, wl_120, wl_122, wl_124, wl_126, wl_128, wl_130, wl_135, wl_137, wl_139, wl_141, wl_143, wl_145, wl_147, wl_149, wl_151, wl_153, wl_155]; have := dT_3 (a); omega) (by omega) hR (am_kqL_r (Or.inl (by omega)) (am_kqL_r (Or.inl (by omega)) (am_kqL_i am_kqL_n))) am_kqS_n (fun ad4 m4 I4 ha4 hX4 hc4 => ?_)
  have ea4 : ∀ j, j < sh.length ∨ 1000 ≤ j → ad4 j = ad j := fun j hj => (ha4 j (by omega)).trans (ea3 j hj)
  show am_V X 5 12308 _ (sh ++ [.inl 1, .inr (4, m4)]) ad4 (164, [(0, .ref q), (1, .ref x), (2, .int (Int32.ofNat a))], [.ref sh.length], I4, G1, P1)
  have hT5 : ((([] ++ w_66) ++ dT (a)) ++ w_68).length ≤ 60 := by simp only [List.length_append, List.length_nil, wl_35, wl_48, wl_50, wl_52, wl_60, wl_62, wl_64, wl_66, wl_68, wl_70, wl_72, wl_74, wl_76, wl_78, wl_80, wl_82, wl_84, wl_104, wl_106, wl_108, wl_118, wl_120, wl_122, wl_124, wl_126, wl_128, wl_130, wl_135, wl_137, wl_139, wl_141, wl_143, wl_145, wl_147, wl_149, wl_151, wl_153, wl_155]; have := dT_3 (a); omega
  have aT5 : aT ((([] ++ w_66) ++ dT (a)) ++ w_68) := hc4.2.1.2.2.2.2.2.2.2.1
  refine c_tos (sh := sh) hX4 hi hm (idx := 44) (by decide +kernel) (by decide +kernel) (by decide) rfl (Nat.le_of_ble_eq_true rfl) ⟨by omega, by omega⟩ hc4 (by omega) hR (am_kqL_r (Or.inl (by omega)) (am_kqL_r (Or.inl (by omega)) (am_kqL_i am_kqL_n))) am_kqS_n (fun ad5 f5 ha5 hX5 hf5 => ?_)
  have ea5 : ∀ j, j < sh.length ∨ 1000 ≤ j → ad5 j = ad j := fun j hj => (ha5 j (by omega)).trans (ea4 j hj)
  refine am_wid hm (cells' := 7) (slots' := 12372) ⟨by omega, by omega⟩ ⟨by omega, by omega⟩ ?_
  show am_V X 7 12372 _ (sh ++ [.inl 0, .inr (4, ((([] ++ w_66) ++ dT (a)) ++ w_68).length)]) ad5 (167, [(0, .ref q), (1, .ref x), (2, .int (Int32.ofNat a))], [.ref sh.length], (am_row (am_row I sh.length (fun _ => 0)) (sh.length + 1) f5), G, (am_up (am_z P sh.length .null) sh.length 0 (.ref (sh.length + 1))))
  exact am_aretA hX5 hi rfl (by decide +kernel) ea5 ⟨_, _, rfl, rfl, Or.inr ⟨rfl, rfl, rfl, aT5, hT5, f5, hf5, rfl, rfl⟩⟩ ⟨by omega, by omega⟩
def sumT (k a n : Nat) : List Nat := match k with
  | 0 => (([] ++ w_35) ++ dT (a))
  | 1 => ((([] ++ w_48) ++ dT (a)) ++ w_50)
  | 2 => (((([] ++ w_52) ++ dT (n - 1)) ++ w_60) ++ dT (a + 1))
  | 3 => ((([] ++ w_62) ++ dT (a)) ++ w_64)
  | _ => ((([] ++ w_66) ++ dT (a)) ++ w_68)
theorem ls_sum {k a : Nat} (hk : k < 5) (ha : a < 17) (hq : sh[q]? = some (.inr (0, 6))) (hz : sh[x]? = some (.inl 12)) (hlv : sh[v]? = some (.inr (0, n))) (hPz : P x 4 = .ref v) (hn1 : 1 ≤ n) (hn4 : n ≤ 4) (hl : sh.length + 20 < 1000) (hR : lR sh.length sh P) (h2 : I q 2 = Int32.ofNat k) (h3 : I q 3 = Int32.ofNat a) : am_CtA mL_sum 7 12 40000 sh.length sh [.ref q, .ref x] I G P (pStr sh (sumT k a n) I G P) := by
  match k, hk with
  | 0, _ => exact s_sum0 ha hq hz hlv hPz hn1 hn4 hl hR h2 h3
  | 1, _ => exact s_sum1 ha hq hz hlv hPz hn1 hn4 hl hR h2 h3
  | 2, _ => exact s_sum2 ha hq hz hlv hPz hn1 hn4 hl hR h2 h3
  | 3, _ => exact s_sum3 ha hq hz hlv hPz hn1 hn4 hl hR h2 h3
  | 4, _ => exact s_sum4 ha hq hz hlv hPz hn1 hn4 hl hR h2 h3
  | k + 5, h => omega
set_option maxHeartbeats 2000000 in
theorem s_test0 {a : Nat} (ha : a < 3) (hq : sh[q]? = some (.inr (0, 6))) (hz : sh[x]? = some (.inl 12)) (hlv : sh[v]? = some (.inr (0, n))) (hPz : P x 4 = .ref v) (hn1 : 1 ≤ n) (hn4 : n ≤ 4) (hl : sh.length + 20 < 1000) (hR : lR sh.length sh P) (h4 : I q 4 = 0) (h5 : I q 5 = Int32.ofNat a) : am_CtA mL_test 7 24 70000 sh.length sh [.ref q, .ref x] I G P (pStr sh w_35 I G P) := by
  have lq := am_at_lt hq
  have lz := am_at_lt hz
  refine am_ofA (by decide +kernel) rfl (by decide) (by decide) (Nat.le_of_ble_eq_true rfl) (fun X ad hX hi hm => ?_)
  have hi : am_info X 15 cL_test 4 false (some (FieldType.object "java/lang/String")) 7 := hi
  have hm : am_mem X 24 70000 := hm
  show am_V X _ _ _ sh ad (0, [(0, .ref q), (1, .ref x)], [], I, G, P)
  refine am_blk 0 [(.aload_n 0, 1, 0, 0, .null), (.iconst (5), 1, 0, 0, .int (5 : Int32))] (2, [(0, .ref q), (1, .ref x)], [.int (5 : Int32), .ref q], I, G, P) True hX hi (by decide +kernel) rfl trivial ?_
  refine am_iaS hX hi (v := (Int32.ofNat a)) hq ((i_in _ _).mpr (by decide)) h5 (by decide +kernel) ?_
  refine am_blk 3 [(.istore_n 2, 1, 2, 0, .null)] (4, [(0, .ref q), (1, .ref x), (2, .int (Int32.ofNat a))], [], I, G, P) True hX hi (by decide +kernel) rfl trivial ?_
  refine c_new (sh := sh) (i1 := 32) (i2 := 34) hX hi hm cl_32 (by decide +kernel) (by decide +kernel) (by decide +kernel) (by decide +kernel) (by decide) (Nat.le_of_ble_eq_true rfl) ⟨by omega, by omega⟩ (by omega) hR (am_kqL_r (Or.inl (by omega)) (am_kqL_r (Or.inl (by omega)) (am_kqL_i am_kqL_n))) am_kqS_n (fun ad1 I1 G1 P1 ha1 hX1 hc1 => ?_)
  have ea1 : ∀ j, j < sh.length ∨ 1000 ≤ j → ad1 j = ad j := fun j hj => (ha1 j (by omega)).trans ((fun _ _ => rfl) j hj)
  refine am_wid hm (cells' := 2) (slots' := 20) ⟨by omega, by omega⟩ ⟨by omega, by omega⟩ ?_
  show am_V X 2 20 _ (sh ++ [.inl 1, .inr (4, 16)]) ad1 (11, [(0, .ref q), (1, .ref x), (2, .int (Int32.ofNat a))], [.ref sh.length], I1, G1, P1)
  refine am_ldcS hX1 hi (i := 41) (idx := 70) rfl rfl rfl (by decide +kernel) ?_
  refine c_S (sh := sh) hX1 hi hm (idx := 37) (by decide +kernel) (by decide +kernel) (by decide) rfl (Nat.le_of_ble_eq_true rfl) ⟨by omega, by omega⟩ hc1 x_70 (by simp only [List.length_append, List.length_nil, wl_35, wl_48, wl_50, wl_52, wl_60, wl_62, wl_64, wl_66, wl_68, wl_70, wl_72, wl_74, wl_76, wl_78, wl_80, wl_82, wl_84, wl_104, wl_106, wl_108, wl_118, wl_120, wl_122, wl_124, wl_126, wl_128, wl_130, wl_135, wl_137, wl_139, wl_141, wl_143, wl_145, wl_147, wl_149, wl_151, wl_153, wl_155]; omega) (by omega) hR (am_kqL_r (Or.inl (by omega)) (am_kqL_r (Or.inl (by omega)) (am_kqL_i am_kqL_n))) am_kqS_n (fun ad2 m2 I2 ha2 hX2 hc2 => ?_)
  have ea2 : ∀ j, j < sh.length ∨ 1000 ≤ j → ad2 j = ad j := fun j hj => (ha2 j (by omega)).trans (ea1 j hj)
  show am_V X 3 4116 _ (sh ++ [.inl 1, .inr (4, m2)]) ad2 (16, [(0, .ref q), (1, .ref x), (2, .int (Int32.ofNat a))], [.ref sh.length], I2, G1, P1)
  refine am_blk 16 [(.aload_n 1, 1, 1, 0, .null)] (17, [(0, .ref q), (1, .ref x), (2, .int (Int32.ofNat a))], [.ref x, .ref sh.length], I2, G1, P1) True hX2 hi (by decide +kernel) rfl trivial ?_
  refine am_gfP hX2 hi (c := 12) (b := 4) (idx := 54) (am_at_app hz) rfl (by decide +kernel) (by rw [(hc2.1 _ lz).2.2]; exact hPz) (by decide +kernel) ?_
  refine am_lenS hX2 hi (am_at_app hlv) (by decide +kernel) ?_
  refine am_blk 21 [(.iconst (1), 1, 0, 0, .int (1 : Int32)), (.isub, 1, 0, 0, .null)] (23, [(0, .ref q), (1, .ref x), (2, .int (Int32.ofNat a))], [.int ((Int32.ofNat n) - (1 : Int32)), .ref sh.length], I2, G1, P1) True hX2 hi (by decide +kernel) rfl trivial ?_
  refine c_N (sh := sh) (x := n - 1) hX2 hi hm (idx := 41) (by decide +kernel) (by decide +kernel) (by decide) (pk_sub (a := n) (b := 1) (by omega)) rfl (Nat.le_of_ble_eq_true rfl) ⟨by omega, by omega⟩ hc2 (by omega) (by simp only [List.length_append, List.length_nil, wl_35, wl_48, wl_50, wl_52, wl_60, wl_62, wl_64, wl_66, wl_68, wl_70, wl_72, wl_74, wl_76, wl_78, wl_80, wl_82, wl_84, wl_104, wl_106, wl_108, wl_118, wl_120, wl_122, wl_124, wl_126, wl_128, wl_130, wl_135, wl_137, wl_139, wl_141, wl_143, wl_145, wl_147, wl_149, wl_151, wl_153, wl_155]; have := dT_3 (n - 1); omega) (by omega) hR (am_kqL_r (Or.inl (by omega)) (am_kqL_r (Or.inl (by omega)) (am_kqL_i am_kqL_n))) am_kqS_n (fun ad3 m3 I3 ha3 hX3 hc3 => ?_)
  have ea3 : ∀ j, j < sh.length ∨ 1000 ≤ j → ad3 j = ad j := fun j hj => (ha3 j (by omega)).trans (ea2 j hj)
  show am_V X 4 8212 _ (sh ++ [.inl 1, .inr (4, m3)]) ad3 (26, [(0, .ref q), (1, .ref x), (2, .int (Int32.ofNat a))], [.ref sh.length], I3, G1, P1)
  have hT4 : (([] ++ w_70) ++ dT (n - 1)).length ≤ 60 := by simp only [List.length_append, List.length_nil, wl_35, wl_48, wl_50, wl_52, wl_60, wl_62, wl_64, wl_66, wl_68, wl_70, wl_72, wl_74, wl_76, wl_78, wl_80, wl_82, wl_84, wl_104, wl_106, wl_108, wl_118, wl_120, wl_122, wl_124, wl_126, wl_128, wl_130, wl_135, wl_137, wl_139, wl_141, wl_143, wl_145, wl_147, wl_149, wl_151, wl_153, wl_155]; have := dT_3 (n - 1); omega
  have aT4 : aT (([] ++ w_70) ++ dT (n - 1)) := hc3.2.1.2.2.2.2.2.2.2.1
  refine c_tos (sh := sh) hX3 hi hm (idx := 44) (by decide +kernel) (by decide +kernel) (by decide) rfl (Nat.le_of_ble_eq_true rfl) ⟨by omega, by omega⟩ hc3 (by omega) hR (am_kqL_r (Or.inl (by omega)) (am_kqL_r (Or.inl (by omega)) (am_kqL_i am_kqL_n))) am_kqS_n (fun ad4 f4 ha4 hX4 hf4 => ?_)
  have ea4 : ∀ j, j < sh.length ∨ 1000 ≤ j → ad4 j = ad j := fun j hj => (ha4 j (by omega)).trans (ea3 j hj)
  refine am_wid hm (cells' := 6) (slots' := 8276) ⟨by omega, by omega⟩ ⟨by omega, by omega⟩ ?_
  show am_V X 6 8276 _ (sh ++ [.inl 0, .inr (4, (([] ++ w_70) ++ dT (n - 1)).length)]) ad4 (29, [(0, .ref q), (1, .ref x), (2, .int (Int32.ofNat a))], [.ref sh.length], (am_row (am_row I sh.length (fun _ => 0)) (sh.length + 1) f4), G, (am_up (am_z P sh.length .null) sh.length 0 (.ref (sh.length + 1))))
  refine am_blk 29 [(.astore_n 3, 1, 3, 0, .null), (.aload_n 0, 1, 0, 0, .null), (.iconst (4), 1, 0, 0, .int (4 : Int32))] (32, [(0, .ref q), (1, .ref x), (2, .int (Int32.ofNat a)), (3, .ref sh.length)], [.int (4 : Int32), .ref q], (am_row (am_row I sh.length (fun _ => 0)) (sh.length + 1) f4), G, (am_up (am_z P sh.length .null) sh.length 0 (.ref (sh.length + 1)))) True hX4 hi (by decide +kernel) rfl trivial ?_
  refine am_iaS hX4 hi (v := (0 : Int32)) (am_at_app hq) ((i_in _ _).mpr (by decide)) (by rw [am_row_ne _ _ (by omega), am_row_ne _ _ (by omega)]; exact h4) (by decide +kernel) ?_
  refine am_tsi hX4 hi (dflt := 120) (lo := 0) (hi' := 3) (offs := #[31, 34, 54, 81]) (len := 31) (off := (31)) (tgt := 64) (by decide +kernel) (by decide) (by decide) rfl (by decide) ?_
  show am_V X 6 8276 _ (sh ++ [.inl 0, .inr (4, (([] ++ w_70) ++ dT (n - 1)).length)]) ad4 (64, [(0, .ref q), (1, .ref x), (2, .int (Int32.ofNat a)), (3, .ref sh.length)], [], (am_row (am_row I sh.length (fun _ => 0)) (sh.length + 1) f4), G, (am_up (am_z P sh.length .null) sh.length 0 (.ref (sh.length + 1))))
  refine am_sub (L' := [(0, .ref q), (1, .ref x), (2, .int (Int32.ofNat a))]) (fun q hq => by simp at hq ⊢; rcases hq with h | h | h <;> simp [h]) ?_
  refine am_dropK (I0 := I) (G0 := G) (P0 := P) (fun k hk => ⟨by rw [am_row_ne _ _ (by omega), am_row_ne _ _ (by omega)], rfl, by rw [am_up_rowb _ _ _ (by omega), am_z_ne _ _ (by omega)]⟩) ?_
  show am_V X 6 8276 _ sh ad4 (64, [(0, .ref q), (1, .ref x), (2, .int (Int32.ofNat a))], [], I, G, P)
  refine am_ldcS hX4 hi (i := 32) (idx := 35) rfl rfl rfl (by decide +kernel) ?_
  exact am_aretA hX4 hi rfl (by decide +kernel) ea4 ⟨_, _, rfl, rfl, Or.inl ⟨rfl, rfl, rfl, fun _ _ _ => x_35⟩⟩ ⟨by omega, by omega⟩
set_option maxHeartbeats 2000000 in
theorem s_test1 {a : Nat} (ha : a < 3) (hq : sh[q]? = some (.inr (0, 6))) (hz : sh[x]? = some (.inl 12)) (hlv : sh[v]? = some (.inr (0, n))) (hPz : P x 4 = .ref v) (hn1 : 1 ≤ n) (hn4 : n ≤ 4) (hl : sh.length + 20 < 1000) (hR : lR sh.length sh P) (h4 : I q 4 = 1) (h5 : I q 5 = Int32.ofNat a) : am_CtA mL_test 7 24 70000 sh.length sh [.ref q, .ref x] I G P (pStr sh (([] ++ w_72) ++ dT (a)) I G P) := by
  have lq := am_at_lt hq
  have lz := am_at_lt hz
  refine am_ofA (by decide +kernel) rfl (by decide) (by decide) (Nat.le_of_ble_eq_true rfl) (fun X ad hX hi hm => ?_)
  have hi : am_info X 15 cL_test 4 false (some (FieldType.object "java/lang/String")) 7 := hi
  have hm : am_mem X 24 70000 := hm
  show am_V X _ _ _ sh ad (0, [(0, .ref q), (1, .ref x)], [], I, G, P)
  refine am_blk 0 [(.aload_n 0, 1, 0, 0, .null), (.iconst (5), 1, 0, 0, .int (5 : Int32))] (2, [(0, .ref q), (1, .ref x)], [.int (5 : Int32), .ref q], I, G, P) True hX hi (by decide +kernel) rfl trivial ?_
  refine am_iaS hX hi (v := (Int32.ofNat a)) hq ((i_in _ _).mpr (by decide)) h5 (by decide +kernel) ?_
  refine am_blk 3 [(.istore_n 2, 1, 2, 0, .null)] (4, [(0, .ref q), (1, .ref x), (2, .int (Int32.ofNat a))], [], I, G, P) True hX hi (by decide +kernel) rfl trivial ?_
  refine c_new (sh := sh) (i1 := 32) (i2 := 34) hX hi hm cl_32 (by decide +kernel) (by decide +kernel) (by decide +kernel) (by decide +kernel) (by decide) (Nat.le_of_ble_eq_true rfl) ⟨by omega, by omega⟩ (by omega) hR (am_kqL_r (Or.inl (by omega)) (am_kqL_r (Or.inl (by omega)) (am_kqL_i am_kqL_n))) am_kqS_n (fun ad1 I1 G1 P1 ha1 hX1 hc1 => ?_)
  have ea1 : ∀ j, j < sh.length ∨ 1000 ≤ j → ad1 j = ad j := fun j hj => (ha1 j (by omega)).trans ((fun _ _ => rfl) j hj)
  refine am_wid hm (cells' := 2) (slots' := 20) ⟨by omega, by omega⟩ ⟨by omega, by omega⟩ ?_
  show am_V X 2 20 _ (sh ++ [.inl 1, .inr (4, 16)]) ad1 (11, [(0, .ref q), (1, .ref x), (2, .int (Int32.ofNat a))], [.ref sh.length], I1, G1, P1)
  refine am_ldcS hX1 hi (i := 41) (idx := 70) rfl rfl rfl (by decide +kernel) ?_
  refine c_S (sh := sh) hX1 hi hm (idx := 37) (by decide +kernel) (by decide +kernel) (by decide) rfl (Nat.le_of_ble_eq_true rfl) ⟨by omega, by omega⟩ hc1 x_70 (by simp only [List.length_append, List.length_nil, wl_35, wl_48, wl_50, wl_52, wl_60, wl_62, wl_64, wl_66, wl_68, wl_70, wl_72, wl_74, wl_76, wl_78, wl_80, wl_82, wl_84, wl_104, wl_106, wl_108, wl_118, wl_120, wl_122, wl_124, wl_126, wl_128, wl_130, wl_135, wl_137, wl_139, wl_141, wl_143, wl_145, wl_147, wl_149, wl_151, wl_153, wl_155]; omega) (by omega) hR (am_kqL_r (Or.inl (by omega)) (am_kqL_r (Or.inl (by omega)) (am_kqL_i am_kqL_n))) am_kqS_n (fun ad2 m2 I2 ha2 hX2 hc2 => ?_)
  have ea2 : ∀ j, j < sh.length ∨ 1000 ≤ j → ad2 j = ad j := fun j hj => (ha2 j (by omega)).trans (ea1 j hj)
  show am_V X 3 4116 _ (sh ++ [.inl 1, .inr (4, m2)]) ad2 (16, [(0, .ref q), (1, .ref x), (2, .int (Int32.ofNat a))], [.ref sh.length], I2, G1, P1)
  refine am_blk 16 [(.aload_n 1, 1, 1, 0, .null)] (17, [(0, .ref q), (1, .ref x), (2, .int (Int32.ofNat a))], [.ref x, .ref sh.length], I2, G1, P1) True hX2 hi (by decide +kernel) rfl trivial ?_
  refine am_gfP hX2 hi (c := 12) (b := 4) (idx := 54) (am_at_app hz) rfl (by decide +kernel) (by rw [(hc2.1 _ lz).2.2]; exact hPz) (by decide +kernel) ?_
  refine am_lenS hX2 hi (am_at_app hlv) (by decide +kernel) ?_
  refine am_blk 21 [(.iconst (1), 1, 0, 0, .int (1 : Int32)), (.isub, 1, 0, 0, .null)] (23, [(0, .ref q), (1, .ref x), (2, .int (Int32.ofNat a))], [.int ((Int32.ofNat n) - (1 : Int32)), .ref sh.length], I2, G1, P1) True hX2 hi (by decide +kernel) rfl trivial ?_
  refine c_N (sh := sh) (x := n - 1) hX2 hi hm (idx := 41) (by decide +kernel) (by decide +kernel) (by decide) (pk_sub (a := n) (b := 1) (by omega)) rfl (Nat.le_of_ble_eq_true rfl) ⟨by omega, by omega⟩ hc2 (by omega) (by simp only [List.length_append, List.length_nil, wl_35, wl_48, wl_50, wl_52, wl_60, wl_62, wl_64, wl_66, wl_68, wl_70, wl_72, wl_74, wl_76, wl_78, wl_80, wl_82, wl_84, wl_104, wl_106, wl_108, wl_118, wl_120, wl_122, wl_124, wl_126, wl_128, wl_130, wl_135, wl_137, wl_139, wl_141, wl_143, wl_145, wl_147, wl_149, wl_151, wl_153, wl_155]; have := dT_3 (n - 1); omega) (by omega) hR (am_kqL_r (Or.inl (by omega)) (am_kqL_r (Or.inl (by omega)) (am_kqL_i am_kqL_n))) am_kqS_n (fun ad3 m3 I3 ha3 hX3 hc3 => ?_)
  have ea3 : ∀ j, j < sh.length ∨ 1000 ≤ j → ad3 j = ad j := fun j hj => (ha3 j (by omega)).trans (ea2 j hj)
  show am_V X 4 8212 _ (sh ++ [.inl 1, .inr (4, m3)]) ad3 (26, [(0, .ref q), (1, .ref x), (2, .int (Int32.ofNat a))], [.ref sh.length], I3, G1, P1)
  have hT4 : (([] ++ w_70) ++ dT (n - 1)).length ≤ 60 := by simp only [List.length_append, List.length_nil, wl_35, wl_48, wl_50, wl_52, wl_60, wl_62, wl_64, wl_66, wl_68, wl_70, wl_72, wl_74, wl_76, wl_78, wl_80, wl_82, wl_84, wl_104, wl_106, wl_108, wl_118, wl_120, wl_122, wl_124, wl_126, wl_128, wl_130, wl_135, wl_137, wl_139, wl_141, wl_143, wl_145, wl_147, wl_149, wl_151, wl_153, wl_155]; have := dT_3 (n - 1); omega
  have aT4 : aT (([] ++ w_70) ++ dT (n - 1)) := hc3.2.1.2.2.2.2.2.2.2.1
  refine c_tos (sh := sh) hX3 hi hm (idx := 44) (by decide +kernel) (by decide +kernel) (by decide) rfl (Nat.le_of_ble_eq_true rfl) ⟨by omega, by omega⟩ hc3 (by omega) hR (am_kqL_r (Or.inl (by omega)) (am_kqL_r (Or.inl (by omega)) (am_kqL_i am_kqL_n))) am_kqS_n (fun ad4 f4 ha4 hX4 hf4 => ?_)
  have ea4 : ∀ j, j < sh.length ∨ 1000 ≤ j → ad4 j = ad j := fun j hj => (ha4 j (by omega)).trans (ea3 j hj)
  refine am_wid hm (cells' := 6) (slots' := 8276) ⟨by omega, by omega⟩ ⟨by omega, by omega⟩ ?_
  show am_V X 6 8276 _ (sh ++ [.inl 0, .inr (4, (([] ++ w_70) ++ dT (n - 1)).length)]) ad4 (29, [(0, .ref q), (1, .ref x), (2, .int (Int32.ofNat a))], [.ref sh.length], (am_row (am_row I sh.length (fun _ => 0)) (sh.length + 1) f4), G, (am_up (am_z P sh.length .null) sh.length 0 (.ref (sh.length + 1))))
  refine am_blk 29 [(.astore_n 3, 1, 3, 0, .null), (.aload_n 0, 1, 0, 0, .null), (.iconst (4), 1, 0, 0, .int (4 : Int32))] (32, [(0, .ref q), (1, .ref x), (2, .int (Int32.ofNat a)), (3, .ref sh.length)], [.int (4 : Int32), .ref q], (am_row (am_row I sh.length (fun _ => 0)) (sh.length + 1) f4), G, (am_up (am_z P sh.length .null) sh.length 0 (.ref (sh.length + 1)))) True hX4 hi (by decide +kernel) rfl trivial ?_
  refine am_iaS hX4 hi (v := (1 : Int32)) (am_at_app hq) ((i_in _ _).mpr (by decide)) (by rw [am_row_ne _ _ (by omega), am_row_ne _ _ (by omega)]; exact h4) (by decide +kernel) ?_
  refine am_tsi hX4 hi (dflt := 120) (lo := 0) (hi' := 3) (offs := #[31, 34, 54, 81]) (len := 31) (off := (34)) (tgt := 67) (by decide +kernel) (by decide) (by decide) rfl (by decide) ?_
  show am_V X 6 8276 _ (sh ++ [.inl 0, .inr (4, (([] ++ w_70) ++ dT (n - 1)).length)]) ad4 (67, [(0, .ref q), (1, .ref x), (2, .int (Int32.ofNat a)), (3, .ref sh.length)], [], (am_row (am_row I sh.length (fun _ => 0)) (sh.length + 1) f4), G, (am_up (am_z P sh.length .null) sh.length 0 (.ref (sh.length + 1))))
  refine am_sub (L' := [(0, .ref q), (1, .ref x), (2, .int (Int32.ofNat a))]) (fun q hq => by simp at hq ⊢; rcases hq with h | h | h <;> simp [h]) ?_
  refine am_dropK (I0 := I) (G0 := G) (P0 := P) (fun k hk => ⟨by rw [am_row_ne _ _ (by omega), am_row_ne _ _ (by omega)], rfl, by rw [am_up_rowb _ _ _ (by omega), am_z_ne _ _ (by omega)]⟩) ?_
  show am_V X 6 8276 _ sh ad4 (67, [(0, .ref q), (1, .ref x), (2, .int (Int32.ofNat a))], [], I, G, P)
  refine c_new (sh := sh) (i1 := 32) (i2 := 34) hX4 hi hm cl_32 (by decide +kernel) (by decide +kernel) (by decide +kernel) (by decide +kernel) (by decide) (Nat.le_of_ble_eq_true rfl) ⟨by omega, by omega⟩ (by omega) hR (am_kqL_r (Or.inl (by omega)) (am_kqL_r (Or.inl (by omega)) (am_kqL_i am_kqL_n))) am_kqS_n (fun ad5 I5 G5 P5 ha5 hX5 hc5 => ?_)
  have ea5 : ∀ j, j < sh.length ∨ 1000 ≤ j → ad5 j = ad j := fun j hj => (ha5 j (by omega)).trans (ea4 j hj)
  refine am_wid hm (cells' := 8) (slots' := 8296) ⟨by omega, by omega⟩ ⟨by omega, by omega⟩ ?_
  show am_V X 8 8296 _ (sh ++ [.inl 1, .inr (4, 16)]) ad5 (74, [(0, .ref q), (1, .ref x), (2, .int (Int32.ofNat a))], [.ref sh.length], I5, G5, P5)
  refine am_ldcS hX5 hi (i := 42) (idx := 72) rfl rfl rfl (by decide +kernel) ?_
  refine c_S (sh := sh) hX5 hi hm (idx := 37) (by decide +kernel) (by decide +kernel) (by decide) rfl (Nat.le_of_ble_eq_true rfl) ⟨by omega, by omega⟩ hc5 x_72 (by simp only [List.length_append, List.length_nil, wl_35, wl_48, wl_50, wl_52, wl_60, wl_62, wl_64, wl_66, wl_68, wl_70, wl_72, wl_74, wl_76, wl_78, wl_80, wl_82, wl_84, wl_104, wl_106, wl_108, wl_118, wl_120, wl_122, wl_124, wl_126, wl_128, wl_130, wl_135, wl_137, wl_139, wl_141, wl_143, wl_145, wl_147, wl_149, wl_151, wl_153, wl_155]; omega) (by omega) hR (am_kqL_r (Or.inl (by omega)) (am_kqL_r (Or.inl (by omega)) (am_kqL_i am_kqL_n))) am_kqS_n (fun ad6 m6 I6 ha6 hX6 hc6 => ?_)
  have ea6 : ∀ j, j < sh.length ∨ 1000 ≤ j → ad6 j = ad j := fun j hj => (ha6 j (by omega)).trans (ea5 j hj)
  show am_V X 9 12392 _ (sh ++ [.inl 1, .inr (4, m6)]) ad6 (79, [(0, .ref q), (1, .ref x), (2, .int (Int32.ofNat a))], [.ref sh.length], I6, G5, P5)
  refine am_blk 79 [(.iload_n 2, 1, 2, 0, .null)] (80, [(0, .ref q), (1, .ref x), (2, .int (Int32.ofNat a))], [.int (Int32.ofNat a), .ref sh.length], I6, G5, P5) True hX6 hi (by decide +kernel) rfl trivial ?_
  refine c_N (sh := sh) (x := a) hX6 hi hm (idx := 41) (by decide +kernel) (by decide +kernel) (by decide) (rfl) rfl (Nat.le_of_ble_eq_true rfl) ⟨by omega, by omega⟩ hc6 (by omega) (by simp only [List.length_append, List.length_nil, wl_35, wl_48, wl_50, wl_52, wl_60, wl_62, wl_64, wl_66, wl_68, wl_70, wl_72, wl_74, wl_76, wl_78, wl_80, wl_82, wl_84, wl_104, wl_106, wl_108, wl_118, wl_120, wl_122, wl_124, wl_126, wl_128, wl_130, wl_135, wl_137, wl_139, wl_141, wl_143, wl_145, wl_147, wl_149, wl_151, wl_153, wl_155]; have := dT_3 (a); omega) (by omega) hR (am_kqL_r (Or.inl (by omega)) (am_kqL_r (Or.inl (by omega)) (am_kqL_i am_kqL_n))) am_kqS_n (fun ad7 m7 I7 ha7 hX7 hc7 => ?_)
  have ea7 : ∀ j, j < sh.length ∨ 1000 ≤ j → ad7 j = ad j := fun j hj => (ha7 j (by omega)).trans (ea6 j hj)
  show am_V X 10 16488 _ (sh ++ [.inl 1, .inr (4, m7)]) ad7 (83, [(0, .ref q), (1, .ref x), (2, .int (Int32.ofNat a))], [.ref sh.length], I7, G5, P5)
  have hT8 : (([] ++ w_72) ++ dT (a)).length ≤ 60 := by simp only [List.length_append, List.length_nil, wl_35, wl_48, wl_50, wl_52, wl_60, wl_62, wl_64, wl_66, wl_68, wl_70, wl_72, wl_74, wl_76, wl_78, wl_80, wl_82, wl_84, wl_104, wl_106, wl_108, wl_118, wl_120, wl_122, wl_124, wl_126, wl_128, wl_130, wl_135, wl_137, wl_139, wl_141, wl_143, wl_145, wl_147, wl_149, wl_151, wl_153, wl_155]; have := dT_3 (a); omega
  have aT8 : aT (([] ++ w_72) ++ dT (a)) := hc7.2.1.2.2.2.2.2.2.2.1
  refine c_tos (sh := sh) hX7 hi hm (idx := 44) (by decide +kernel) (by decide +kernel) (by decide) rfl (Nat.le_of_ble_eq_true rfl) ⟨by omega, by omega⟩ hc7 (by omega) hR (am_kqL_r (Or.inl (by omega)) (am_kqL_r (Or.inl (by omega)) (am_kqL_i am_kqL_n))) am_kqS_n (fun ad8 f8 ha8 hX8 hf8 => ?_)
  have ea8 : ∀ j, j < sh.length ∨ 1000 ≤ j → ad8 j = ad j := fun j hj => (ha8 j (by omega)).trans (ea7 j hj)
  refine am_wid hm (cells' := 12) (slots' := 16552) ⟨by omega, by omega⟩ ⟨by omega, by omega⟩ ?_
  show am_V X 12 16552 _ (sh ++ [.inl 0, .inr (4, (([] ++ w_72) ++ dT (a)).length)]) ad8 (86, [(0, .ref q), (1, .ref x), (2, .int (Int32.ofNat a))], [.ref sh.length], (am_row (am_row I sh.length (fun _ => 0)) (sh.length + 1) f8), G, (am_up (am_z P sh.length .null) sh.length 0 (.ref (sh.length + 1))))
  exact am_aretA hX8 hi rfl (by decide +kernel) ea8 ⟨_, _, rfl, rfl, Or.inr ⟨rfl, rfl, rfl, aT8, hT8, f8, hf8, rfl, rfl⟩⟩ ⟨by omega, by omega⟩
set_option maxHeartbeats 2000000 in
theorem s_test2 {a : Nat} (ha : a < 3) (hq : sh[q]? = some (.inr (0, 6))) (hz : sh[x]? = some (.inl 12)) (hlv : sh[v]? = some (.inr (0, n))) (hPz : P x 4 = .ref v) (hn1 : 1 ≤ n) (hn4 : n ≤ 4) (hl : sh.length + 20 < 1000) (hR : lR sh.length sh P) (h4 : I q 4 = 2) (h5 : I q 5 = Int32.ofNat a) : am_CtA mL_test 7 24 70000 sh.length sh [.ref q, .ref x] I G P (pStr sh (([] ++ w_74) ++ dT (440 + 40 * a)) I G P) := by
  have lq := am_at_lt hq
  have lz := am_at_lt hz
  refine am_ofA (by decide +kernel) rfl (by decide) (by decide) (Nat.le_of_ble_eq_true rfl) (fun X ad hX hi hm => ?_)
  have hi : am_info X 15 cL_test 4 false (some (FieldType.object "java/lang/String")) 7 := hi
  have hm : am_mem X 24 70000 := hm
  show am_V X _ _ _ sh ad (0, [(0, .ref q), (1, .ref x)], [], I, G, P)
  refine am_blk 0 [(.aload_n 0, 1, 0, 0, .null), (.iconst (5), 1, 0, 0, .int (5 : Int32))] (2, [(0, .ref q), (1, .ref x)], [.int (5 : Int32), .ref q], I, G, P) True hX hi (by decide +kernel) rfl trivial ?_
  refine am_iaS hX hi (v := (Int32.ofNat a)) hq ((i_in _ _).mpr (by decide)) h5 (by decide +kernel) ?_
  refine am_blk 3 [(.istore_n 2, 1, 2, 0, .null)] (4, [(0, .ref q), (1, .ref x), (2, .int (Int32.ofNat a))], [], I, G, P) True hX hi (by decide +kernel) rfl trivial ?_
  refine c_new (sh := sh) (i1 := 32) (i2 := 34) hX hi hm cl_32 (by decide +kernel) (by decide +kernel) (by decide +kernel) (by decide +kernel) (by decide) (Nat.le_of_ble_eq_true rfl) ⟨by omega, by omega⟩ (by omega) hR (am_kqL_r (Or.inl (by omega)) (am_kqL_r (Or.inl (by omega)) (am_kqL_i am_kqL_n))) am_kqS_n (fun ad1 I1 G1 P1 ha1 hX1 hc1 => ?_)
  have ea1 : ∀ j, j < sh.length ∨ 1000 ≤ j → ad1 j = ad j := fun j hj => (ha1 j (by omega)).trans ((fun _ _ => rfl) j hj)
  refine am_wid hm (cells' := 2) (slots' := 20) ⟨by omega, by omega⟩ ⟨by omega, by omega⟩ ?_
  show am_V X 2 20 _ (sh ++ [.inl 1, .inr (4, 16)]) ad1 (11, [(0, .ref q), (1, .ref x), (2, .int (Int32.ofNat a))], [.ref sh.length], I1, G1, P1)
  refine am_ldcS hX1 hi (i := 41) (idx := 70) rfl rfl rfl (by decide +kernel) ?_
  refine c_S (sh := sh) hX1 hi hm (idx := 37) (by decide +kernel) (by decide +kernel) (by decide) rfl (Nat.le_of_ble_eq_true rfl) ⟨by omega, by omega⟩ hc1 x_70 (by simp only [List.length_append, List.length_nil, wl_35, wl_48, wl_50, wl_52, wl_60, wl_62, wl_64, wl_66, wl_68, wl_70, wl_72, wl_74, wl_76, wl_78, wl_80, wl_82, wl_84, wl_104, wl_106, wl_108, wl_118, wl_120, wl_122, wl_124, wl_126, wl_128, wl_130, wl_135, wl_137, wl_139, wl_141, wl_143, wl_145, wl_147, wl_149, wl_151, wl_153, wl_155]; omega) (by omega) hR (am_kqL_r (Or.inl (by omega)) (am_kqL_r (Or.inl (by omega)) (am_kqL_i am_kqL_n))) am_kqS_n (fun ad2 m2 I2 ha2 hX2 hc2 => ?_)
  have ea2 : ∀ j, j < sh.length ∨ 1000 ≤ j → ad2 j = ad j := fun j hj => (ha2 j (by omega)).trans (ea1 j hj)
  show am_V X 3 4116 _ (sh ++ [.inl 1, .inr (4, m2)]) ad2 (16, [(0, .ref q), (1, .ref x), (2, .int (Int32.ofNat a))], [.ref sh.length], I2, G1, P1)
  refine am_blk 16 [(.aload_n 1, 1, 1, 0, .null)] (17, [(0, .ref q), (1, .ref x), (2, .int (Int32.ofNat a))], [.ref x, .ref sh.length], I2, G1, P1) True hX2 hi (by decide +kernel) rfl trivial ?_
  refine am_gfP hX2 hi (c := 12) (b := 4) (idx := 54) (am_at_app hz) rfl (by decide +kernel) (by rw [(hc2.1 _ lz).2.2]; exact hPz) (by decide +kernel) ?_
  refine am_lenS hX2 hi (am_at_app hlv) (by decide +kernel) ?_
  refine am_blk 21 [(.iconst (1), 1, 0, 0, .int (1 : Int32)), (.isub, 1, 0, 0, .null)] (23, [(0, .ref q), (1, .ref x), (2, .int (Int32.ofNat a))], [.int ((Int32.ofNat n) - (1 : Int32)), .ref sh.length], I2, G1, P1) True hX2 hi (by decide +kernel) rfl trivial ?_
  refine c_N (sh := sh) (x := n - 1) hX2 hi hm (idx := 41) (by decide +kernel) (by decide +kernel) (by decide) (pk_sub (a := n) (b := 1) (by omega)) rfl (Nat.le_of_ble_eq_true rfl) ⟨by omega, by omega⟩ hc2 (by omega) (by simp only [List.length_append, List.length_nil, wl_35, wl_48, wl_50, wl_52, wl_60, wl_62, wl_64, wl_66, wl_68, wl_70, wl_72, wl_74, wl_76, wl_78, wl_80, wl_82, wl_84, wl_104, wl_106, wl_108, wl_118, wl_120, wl_122, wl_124, wl_126, wl_128, wl_130, wl_135, wl_137, wl_139, wl_141, wl_143, wl_145, wl_147, wl_149, wl_151, wl_153, wl_155]; have := dT_3 (n - 1); omega) (by omega) hR (am_kqL_r (Or.inl (by omega)) (am_kqL_r (Or.inl (by omega)) (am_kqL_i am_kqL_n))) am_kqS_n (fun ad3 m3 I3 ha3 hX3 hc3 => ?_)
  have ea3 : ∀ j, j < sh.length ∨ 1000 ≤ j → ad3 j = ad j := fun j hj => (ha3 j (by omega)).trans (ea2 j hj)
  show am_V X 4 8212 _ (sh ++ [.inl 1, .inr (4, m3)]) ad3 (26, [(0, .ref q), (1, .ref x), (2, .int (Int32.ofNat a))], [.ref sh.length], I3, G1, P1)
  have hT4 : (([] ++ w_70) ++ dT (n - 1)).length ≤ 60 := by simp only [List.length_append, List.length_nil, wl_35, wl_48, wl_50, wl_52, wl_60, wl_62, wl_64, wl_66, wl_68, wl_70, wl_72, wl_74, wl_76, wl_78, wl_80, wl_82, wl_84, wl_104, wl_106, wl_108, wl_118, wl_120, wl_122, wl_124, wl_126, wl_128, wl_130, wl_135, wl_137, wl_139, wl_141, wl_143, wl_145, wl_147, wl_149, wl_151, wl_153, wl_155]; have := dT_3 (n - 1); omega
  have aT4 : aT (([] ++ w_70) ++ dT (n - 1)) := hc3.2.1.2.2.2.2.2.2.2.1
  refine c_tos (sh := sh) hX3 hi hm (idx := 44) (by decide +kernel) (by decide +kernel) (by decide) rfl (Nat.le_of_ble_eq_true rfl) ⟨by omega, by omega⟩ hc3 (by omega) hR (am_kqL_r (Or.inl (by omega)) (am_kqL_r (Or.inl (by omega)) (am_kqL_i am_kqL_n))) am_kqS_n (fun ad4 f4 ha4 hX4 hf4 => ?_)
  have ea4 : ∀ j, j < sh.length ∨ 1000 ≤ j → ad4 j = ad j := fun j hj => (ha4 j (by omega)).trans (ea3 j hj)
  refine am_wid hm (cells' := 6) (slots' := 8276) ⟨by omega, by omega⟩ ⟨by omega, by omega⟩ ?_
  show am_V X 6 8276 _ (sh ++ [.inl 0, .inr (4, (([] ++ w_70) ++ dT (n - 1)).length)]) ad4 (29, [(0, .ref q), (1, .ref x), (2, .int (Int32.ofNat a))], [.ref sh.length], (am_row (am_row I sh.length (fun _ => 0)) (sh.length + 1) f4), G, (am_up (am_z P sh.length .null) sh.length 0 (.ref (sh.length + 1))))
  refine am_blk 29 [(.astore_n 3, 1, 3, 0, .null), (.aload_n 0, 1, 0, 0, .null), (.iconst (4), 1, 0, 0, .int (4 : Int32))] (32, [(0, .ref q), (1, .ref x), (2, .int (Int32.ofNat a)), (3, .ref sh.length)], [.int (4 : Int32), .ref q], (am_row (am_row I sh.length (fun _ => 0)) (sh.length + 1) f4), G, (am_up (am_z P sh.length .null) sh.length 0 (.ref (sh.length + 1)))) True hX4 hi (by decide +kernel) rfl trivial ?_
  refine am_iaS hX4 hi (v := (2 : Int32)) (am_at_app hq) ((i_in _ _).mpr (by decide)) (by rw [am_row_ne _ _ (by omega), am_row_ne _ _ (by omega)]; exact h4) (by decide +kernel) ?_
  refine am_tsi hX4 hi (dflt := 120) (lo := 0) (hi' := 3) (offs := #[31, 34, 54, 81]) (len := 31) (off := (54)) (tgt := 87) (by decide +kernel) (by decide) (by decide) rfl (by decide) ?_
  show am_V X 6 8276 _ (sh ++ [.inl 0, .inr (4, (([] ++ w_70) ++ dT (n - 1)).length)]) ad4 (87, [(0, .ref q), (1, .ref x), (2, .int (Int32.ofNat a)), (3, .ref sh.length)], [], (am_row (am_row I sh.length (fun _ => 0)) (sh.length + 1) f4), G, (am_up (am_z P sh.length .null) sh.length 0 (.ref (sh.length + 1))))
  refine am_sub (L' := [(0, .ref q), (1, .ref x), (2, .int (Int32.ofNat a))]) (fun q hq => by simp at hq ⊢; rcases hq with h | h | h <;> simp [h]) ?_
  refine am_dropK (I0 := I) (G0 := G) (P0 := P) (fun k hk => ⟨by rw [am_row_ne _ _ (by omega), am_row_ne _ _ (by omega)], rfl, by rw [am_up_rowb _ _ _ (by omega), am_z_ne _ _ (by omega)]⟩) ?_
  show am_V X 6 8276 _ sh ad4 (87, [(0, .ref q), (1, .ref x), (2, .int (Int32.ofNat a))], [], I, G, P)
  refine c_new (sh := sh) (i1 := 32) (i2 := 34) hX4 hi hm cl_32 (by decide +kernel) (by decide +kernel) (by decide +kernel) (by decide +kernel) (by decide) (Nat.le_of_ble_eq_true rfl) ⟨by omega, by omega⟩ (by omega) hR (am_kqL_r (Or.inl (by omega)) (am_kqL_r (Or.inl (by omega)) (am_kqL_i am_kqL_n))) am_kqS_n (fun ad5 I5 G5 P5 ha5 hX5 hc5 => ?_)
  have ea5 : ∀ j, j < sh.length ∨ 1000 ≤ j → ad5 j = ad j := fun j hj => (ha5 j (by omega)).trans (ea4 j hj)
  refine am_wid hm (cells' := 8) (slots' := 8296) ⟨by omega, by omega⟩ ⟨by omega, by omega⟩ ?_
  show am_V X 8 8296 _ (sh ++ [.inl 1, .inr (4, 16)]) ad5 (94, [(0, .ref q), (1, .ref x), (2, .int (Int32.ofNat a))], [.ref sh.length], I5, G5, P5)
  refine am_ldcS hX5 hi (i := 43) (idx := 74) rfl rfl rfl (by decide +kernel) ?_
  refine c_S (sh := sh) hX5 hi hm (idx := 37) (by decide +kernel) (by decide +kernel) (by decide) rfl (Nat.le_of_ble_eq_true rfl) ⟨by omega, by omega⟩ hc5 x_74 (by simp only [List.length_append, List.length_nil, wl_35, wl_48, wl_50, wl_52, wl_60, wl_62, wl_64, wl_66, wl_68, wl_70, wl_72, wl_74, wl_76, wl_78, wl_80, wl_82, wl_84, wl_104, wl_106, wl_108, wl_118, wl_120, wl_122, wl_124, wl_126, wl_128, wl_130, wl_135, wl_137, wl_139, wl_141, wl_143, wl_145, wl_147, wl_149, wl_151, wl_153, wl_155]; omega) (by omega) hR (am_kqL_r (Or.inl (by omega)) (am_kqL_r (Or.inl (by omega)) (am_kqL_i am_kqL_n))) am_kqS_n (fun ad6 m6 I6 ha6 hX6 hc6 => ?_)
  have ea6 : ∀ j, j < sh.length ∨ 1000 ≤ j → ad6 j = ad j := fun j hj => (ha6 j (by omega)).trans (ea5 j hj)
  show am_V X 9 12392 _ (sh ++ [.inl 1, .inr (4, m6)]) ad6 (99, [(0, .ref q), (1, .ref x), (2, .int (Int32.ofNat a))], [.ref sh.length], I6, G5, P5)
  refine am_blk 99 [(.sipush (440), 3, 0, 0, .int (440 : Int32)), (.bipush (40), 2, 0, 0, .int (40 : Int32)), (.iload_n 2, 1, 2, 0, .null), (.imul, 1, 0, 0, .null), (.iadd, 1, 0, 0, .null)] (107, [(0, .ref q), (1, .ref x), (2, .int (Int32.ofNat a))], [.int ((440 : Int32) + ((40 : Int32) * (Int32.ofNat a))), .ref sh.length], I6, G5, P5) True hX6 hi (by decide +kernel) rfl trivial ?_
  refine c_N (sh := sh) (x := 440 + 40 * a) hX6 hi hm (idx := 41) (by decide +kernel) (by decide +kernel) (by decide) ((st_nat a ha).1) rfl (Nat.le_of_ble_eq_true rfl) ⟨by omega, by omega⟩ hc6 (by omega) (by simp only [List.length_append, List.length_nil, wl_35, wl_48, wl_50, wl_52, wl_60, wl_62, wl_64, wl_66, wl_68, wl_70, wl_72, wl_74, wl_76, wl_78, wl_80, wl_82, wl_84, wl_104, wl_106, wl_108, wl_118, wl_120, wl_122, wl_124, wl_126, wl_128, wl_130, wl_135, wl_137, wl_139, wl_141, wl_143, wl_145, wl_147, wl_149, wl_151, wl_153, wl_155]; have := dT_3 (440 + 40 * a); omega) (by omega) hR (am_kqL_r (Or.inl (by omega)) (am_kqL_r (Or.inl (by omega)) (am_kqL_i am_kqL_n))) am_kqS_n (fun ad7 m7 I7 ha7 hX7 hc7 => ?_)
  have ea7 : ∀ j, j < sh.length ∨ 1000 ≤ j → ad7 j = ad j := fun j hj => (ha7 j (by omega)).trans (ea6 j hj)
  show am_V X 10 16488 _ (sh ++ [.inl 1, .inr (4, m7)]) ad7 (110, [(0, .ref q), (1, .ref x), (2, .int (Int32.ofNat a))], [.ref sh.length], I7, G5, P5)
  have hT8 : (([] ++ w_74) ++ dT (440 + 40 * a)).length ≤ 60 := by simp only [List.length_append, List.length_nil, wl_35, wl_48, wl_50, wl_52, wl_60, wl_62, wl_64, wl_66, wl_68, wl_70, wl_72, wl_74, wl_76, wl_78, wl_80, wl_82, wl_84, wl_104, wl_106, wl_108, wl_118, wl_120, wl_122, wl_124, wl_126, wl_128, wl_130, wl_135, wl_137, wl_139, wl_141, wl_143, wl_145, wl_147, wl_149, wl_151, wl_153, wl_155]; have := dT_3 (440 + 40 * a); omega
  have aT8 : aT (([] ++ w_74) ++ dT (440 + 40 * a)) := hc7.2.1.2.2.2.2.2.2.2.1
  refine c_tos (sh := sh) hX7 hi hm (idx := 44) (by decide +kernel) (by decide +kernel) (by decide) rfl (Nat.le_of_ble_eq_true rfl) ⟨by omega, by omega⟩ hc7 (by omega) hR (am_kqL_r (Or.inl (by omega)) (am_kqL_r (Or.inl (by omega)) (am_kqL_i am_kqL_n))) am_kqS_n (fun ad8 f8 ha8 hX8 hf8 => ?_)
  have ea8 : ∀ j, j < sh.length ∨ 1000 ≤ j → ad8 j = ad j := fun j hj => (ha8 j (by omega)).trans (ea7 j hj)
  refine am_wid hm (cells' := 12) (slots' := 16552) ⟨by omega, by omega⟩ ⟨by omega, by omega⟩ ?_
  show am_V X 12 16552 _ (sh ++ [.inl 0, .inr (4, (([] ++ w_74) ++ dT (440 + 40 * a)).length)]) ad8 (113, [(0, .ref q), (1, .ref x), (2, .int (Int32.ofNat a))], [.ref sh.length], (am_row (am_row I sh.length (fun _ => 0)) (sh.length + 1) f8), G, (am_up (am_z P sh.length .null) sh.length 0 (.ref (sh.length + 1))))
  exact am_aretA hX8 hi rfl (by decide +kernel) ea8 ⟨_, _, rfl, rfl, Or.inr ⟨rfl, rfl, rfl, aT8, hT8, f8, hf8, rfl, rfl⟩⟩ ⟨by omega, by omega⟩
set_option maxHeartbeats 2000000 in
theorem s_test3 {a : Nat} (ha : a < 3) (hq : sh[q]? = some (.inr (0, 6))) (hz : sh[x]? = some (.inl 12)) (hlv : sh[v]? = some (.inr (0, n))) (hPz : P x 4 = .ref v) (hn1 : 1 ≤ n) (hn4 : n ≤ 4) (hl : sh.length + 20 < 1000) (hR : lR sh.length sh P) (h4 : I q 4 = 3) (h5 : I q 5 = Int32.ofNat a) : am_CtA mL_test 7 24 70000 sh.length sh [.ref q, .ref x] I G P (pStr sh ((((([] ++ w_76) ++ (([] ++ w_70) ++ dT (n - 1))) ++ w_78) ++ dT (30 * (a + 1))) ++ w_80) I G P) := by
  have lq := am_at_lt hq
  have lz := am_at_lt hz
  refine am_ofA (by decide +kernel) rfl (by decide) (by decide) (Nat.le_of_ble_eq_true rfl) (fun X ad hX hi hm => ?_)
  have hi : am_info X 15 cL_test 4 false (some (FieldType.object "java/lang/String")) 7 := hi
  have hm : am_mem X 24 70000 := hm
  show am_V X _ _ _ sh ad (0, [(0, .ref q), (1, .ref x)], [], I, G, P)
  refine am_blk 0 [(.aload_n 0, 1, 0, 0, .null), (.iconst (5), 1, 0, 0, .int (5 : Int32))] (2, [(0, .ref q), (1, .ref x)], [.int (5 : Int32), .ref q], I, G, P) True hX hi (by decide +kernel) rfl trivial ?_
  refine am_iaS hX hi (v := (Int32.ofNat a)) hq ((i_in _ _).mpr (by decide)) h5 (by decide +kernel) ?_
  refine am_blk 3 [(.istore_n 2, 1, 2, 0, .null)] (4, [(0, .ref q), (1, .ref x), (2, .int (Int32.ofNat a))], [], I, G, P) True hX hi (by decide +kernel) rfl trivial ?_
  refine c_new (sh := sh) (i1 := 32) (i2 := 34) hX hi hm cl_32 (by decide +kernel) (by decide +kernel) (by decide +kernel) (by decide +kernel) (by decide) (Nat.le_of_ble_eq_true rfl) ⟨by omega, by omega⟩ (by omega) hR (am_kqL_r (Or.inl (by omega)) (am_kqL_r (Or.inl (by omega)) (am_kqL_i am_kqL_n))) am_kqS_n (fun ad1 I1 G1 P1 ha1 hX1 hc1 => ?_)
  have ea1 : ∀ j, j < sh.length ∨ 1000 ≤ j → ad1 j = ad j := fun j hj => (ha1 j (by omega)).trans ((fun _ _ => rfl) j hj)
  refine am_wid hm (cells' := 2) (slots' := 20) ⟨by omega, by omega⟩ ⟨by omega, by omega⟩ ?_
  show am_V X 2 20 _ (sh ++ [.inl 1, .inr (4, 16)]) ad1 (11, [(0, .ref q), (1, .ref x), (2, .int (Int32.ofNat a))], [.ref sh.length], I1, G1, P1)
  refine am_ldcS hX1 hi (i := 41) (idx := 70) rfl rfl rfl (by decide +kernel) ?_
  refine c_S (sh := sh) hX1 hi hm (idx := 37) (by decide +kernel) (by decide +kernel) (by decide) rfl (Nat.le_of_ble_eq_true rfl) ⟨by omega, by omega⟩ hc1 x_70 (by simp only [List.length_append, List.length_nil, wl_35, wl_48, wl_50, wl_52, wl_60, wl_62, wl_64, wl_66, wl_68, wl_70, wl_72, wl_74, wl_76, wl_78, wl_80, wl_82, wl_84, wl_104, wl_106, wl_108, wl_118, wl_120, wl_122, wl_124, wl_126, wl_128, wl_130, wl_135, wl_137, wl_139, wl_141, wl_143, wl_145, wl_147, wl_149, wl_151, wl_153, wl_155]; omega) (by omega) hR (am_kqL_r (Or.inl (by omega)) (am_kqL_r (Or.inl (by omega)) (am_kqL_i am_kqL_n))) am_kqS_n (fun ad2 m2 I2 ha2 hX2 hc2 => ?_)
  have ea2 : ∀ j, j < sh.length ∨ 1000 ≤ j → ad2 j = ad j := fun j hj => (ha2 j (by omega)).trans (ea1 j hj)
  show am_V X 3 4116 _ (sh ++ [.inl 1, .inr (4, m2)]) ad2 (16, [(0, .ref q), (1, .ref x), (2, .int (Int32.ofNat a))], [.ref sh.length], I2, G1, P1)
  refine am_blk 16 [(.aload_n 1, 1, 1, 0, .null)] (17, [(0, .ref q), (1, .ref x), (2, .int (Int32.ofNat a))], [.ref x, .ref sh.length], I2, G1, P1) True hX2 hi (by decide +kernel) rfl trivial ?_
  refine am_gfP hX2 hi (c := 12) (b := 4) (idx := 54) (am_at_app hz) rfl (by decide +kernel) (by rw [(hc2.1 _ lz).2.2]; exact hPz) (by decide +kernel) ?_
  refine am_lenS hX2 hi (am_at_app hlv) (by decide +kernel) ?_
  refine am_blk 21 [(.iconst (1), 1, 0, 0, .int (1 : Int32)), (.isub, 1, 0, 0, .null)] (23, [(0, .ref q), (1, .ref x), (2, .int (Int32.ofNat a))], [.int ((Int32.ofNat n) - (1 : Int32)), .ref sh.length], I2, G1, P1) True hX2 hi (by decide +kernel) rfl trivial ?_
  refine c_N (sh := sh) (x := n - 1) hX2 hi hm (idx := 41) (by decide +kernel) (by decide +kernel) (by decide) (pk_sub (a := n) (b := 1) (by omega)) rfl (Nat.le_of_ble_eq_true rfl) ⟨by omega, by omega⟩ hc2 (by omega) (by simp only [List.length_append, List.length_nil, wl_35, wl_48, wl_50, wl_52, wl_60, wl_62, wl_64, wl_66, wl_68, wl_70, wl_72, wl_74, wl_76, wl_78, wl_80, wl_82, wl_84, wl_104, wl_106, wl_108, wl_118, wl_120, wl_122, wl_124, wl_126, wl_128, wl_130, wl_135, wl_137, wl_139, wl_141, wl_143, wl_145, wl_147, wl_149, wl_151, wl_153, wl_155]; have := dT_3 (n - 1); omega) (by omega) hR (am_kqL_r (Or.inl (by omega)) (am_kqL_r (Or.inl (by omega)) (am_kqL_i am_kqL_n))) am_kqS_n (fun ad3 m3 I3 ha3 hX3 hc3 => ?_)
  have ea3 : ∀ j, j < sh.length ∨ 1000 ≤ j → ad3 j = ad j := fun j hj => (ha3 j (by omega)).trans (ea2 j hj)
  show am_V X 4 8212 _ (sh ++ [.inl 1, .inr (4, m3)]) ad3 (26, [(0, .ref q), (1, .ref x), (2, .int (Int32.ofNat a))], [.ref sh.length], I3, G1, P1)
  have hT4 : (([] ++ w_70) ++ dT (n - 1)).length ≤ 60 := by simp only [List.length_append, List.length_nil, wl_35, wl_48, wl_50, wl_52, wl_60, wl_62, wl_64, wl_66, wl_68, wl_70, wl_72, wl_74, wl_76, wl_78, wl_80, wl_82, wl_84, wl_104, wl_106, wl_108, wl_118, wl_120, wl_122, wl_124, wl_126, wl_128, wl_130, wl_135, wl_137, wl_139, wl_141, wl_143, wl_145, wl_147, wl_149, wl_151, wl_153, wl_155]; have := dT_3 (n - 1); omega
  have aT4 : aT (([] ++ w_70) ++ dT (n - 1)) := hc3.2.1.2.2.2.2.2.2.2.1
  refine c_tos (sh := sh) hX3 hi hm (idx := 44) (by decide +kernel) (by decide +kernel) (by decide) rfl (Nat.le_of_ble_eq_true rfl) ⟨by omega, by omega⟩ hc3 (by omega) hR (am_kqL_r (Or.inl (by omega)) (am_kqL_r (Or.inl (by omega)) (am_kqL_i am_kqL_n))) am_kqS_n (fun ad4 f4 ha4 hX4 hf4 => ?_)
  have ea4 : ∀ j, j < sh.length ∨ 1000 ≤ j → ad4 j = ad j := fun j hj => (ha4 j (by omega)).trans (ea3 j hj)
  refine am_wid hm (cells' := 6) (slots' := 8276) ⟨by omega, by omega⟩ ⟨by omega, by omega⟩ ?_
  show am_V X 6 8276 _ (sh ++ [.inl 0, .inr (4, (([] ++ w_70) ++ dT (n - 1)).length)]) ad4 (29, [(0, .ref q), (1, .ref x), (2, .int (Int32.ofNat a))], [.ref sh.length], (am_row (am_row I sh.length (fun _ => 0)) (sh.length + 1) f4), G, (am_up (am_z P sh.length .null) sh.length 0 (.ref (sh.length + 1))))
  refine am_blk 29 [(.astore_n 3, 1, 3, 0, .null), (.aload_n 0, 1, 0, 0, .null), (.iconst (4), 1, 0, 0, .int (4 : Int32))] (32, [(0, .ref q), (1, .ref x), (2, .int (Int32.ofNat a)), (3, .ref sh.length)], [.int (4 : Int32), .ref q], (am_row (am_row I sh.length (fun _ => 0)) (sh.length + 1) f4), G, (am_up (am_z P sh.length .null) sh.length 0 (.ref (sh.length + 1)))) True hX4 hi (by decide +kernel) rfl trivial ?_
  refine am_iaS hX4 hi (v := (3 : Int32)) (am_at_app hq) ((i_in _ _).mpr (by decide)) (by rw [am_row_ne _ _ (by omega), am_row_ne _ _ (by omega)]; exact h4) (by decide +kernel) ?_
  refine am_tsi hX4 hi (dflt := 120) (lo := 0) (hi' := 3) (offs := #[31, 34, 54, 81]) (len := 31) (off := (81)) (tgt := 114) (by decide +kernel) (by decide) (by decide) rfl (by decide) ?_
  show am_V X 6 8276 _ (sh ++ [.inl 0, .inr (4, (([] ++ w_70) ++ dT (n - 1)).length)]) ad4 (114, [(0, .ref q), (1, .ref x), (2, .int (Int32.ofNat a)), (3, .ref sh.length)], [], (am_row (am_row I sh.length (fun _ => 0)) (sh.length + 1) f4), G, (am_up (am_z P sh.length .null) sh.length 0 (.ref (sh.length + 1))))
  obtain ⟨sb, hsb⟩ : ∃ sb, sb = sh ++ [(.inl 0 : am_Sh), .inr (4, (([] ++ w_70) ++ dT (n - 1)).length)] := ⟨_, rfl⟩
  have eb : sb.length = sh.length + 2 := by rw [hsb]; exact len2
  have hRb : lR sb.length sb (am_up (am_z P sh.length .null) sh.length 0 (.ref (sh.length + 1))) := by rw [eb, hsb]; exact hR.str
  rw [← hsb]
  show am_V X 6 8276 _ sb ad4 (114, [(0, .ref q), (1, .ref x), (2, .int (Int32.ofNat a)), (3, .ref sh.length)], [], (am_row (am_row I sh.length (fun _ => 0)) (sh.length + 1) f4), G, (am_up (am_z P sh.length .null) sh.length 0 (.ref (sh.length + 1))))
  refine c_new (sh := sb) (i1 := 32) (i2 := 34) hX4 hi hm cl_32 (by decide +kernel) (by decide +kernel) (by decide +kernel) (by decide +kernel) (by decide) (Nat.le_of_ble_eq_true rfl) ⟨by omega, by omega⟩ (by rw [eb]; omega) hRb (am_kqL_r (Or.inl (by rw [eb]; omega)) (am_kqL_r (Or.inl (by rw [eb]; omega)) (am_kqL_i (am_kqL_r (Or.inl (by rw [eb]; omega)) am_kqL_n)))) am_kqS_n (fun ad5 I5 G5 P5 ha5 hX5 hc5 => ?_)
  have ea5 : ∀ j, j < sh.length ∨ 1000 ≤ j → ad5 j = ad j := fun j hj => (ha5 j (by rw [eb]; omega)).trans (ea4 j hj)
  refine am_wid hm (cells' := 8) (slots' := 8296) ⟨by omega, by omega⟩ ⟨by omega, by omega⟩ ?_
  show am_V X 8 8296 _ (sb ++ [.inl 1, .inr (4, 16)]) ad5 (121, [(0, .ref q), (1, .ref x), (2, .int (Int32.ofNat a)), (3, .ref sh.length)], [.ref sb.length], I5, G5, P5)
  refine am_ldcS hX5 hi (i := 44) (idx := 76) rfl rfl rfl (by decide +kernel) ?_
  refine c_S (sh := sb) hX5 hi hm (idx := 37) (by decide +kernel) (by decide +kernel) (by decide) rfl (Nat.le_of_ble_eq_true rfl) ⟨by omega, by omega⟩ hc5 x_76 (by simp only [List.length_append, List.length_nil, wl_35, wl_48, wl_50, wl_52, wl_60, wl_62, wl_64, wl_66, wl_68, wl_70, wl_72, wl_74, wl_76, wl_78, wl_80, wl_82, wl_84, wl_104, wl_106, wl_108, wl_118, wl_120, wl_122, wl_124, wl_126, wl_128, wl_130, wl_135, wl_137, wl_139, wl_141, wl_143, wl_145, wl_147, wl_149, wl_151, wl_153, wl_155]; omega) (by rw [eb]; omega) hRb (am_kqL_r (Or.inl (by rw [eb]; omega)) (am_kqL_r (Or.inl (by rw [eb]; omega)) (am_kqL_i (am_kqL_r (Or.inl (by rw [eb]; omega)) am_kqL_n)))) am_kqS_n (fun ad6 m6 I6 ha6 hX6 hc6 => ?_)
  have ea6 : ∀ j, j < sh.length ∨ 1000 ≤ j → ad6 j = ad j := fun j hj => (ha6 j (by rw [eb]; omega)).trans (ea5 j hj)
  show am_V X 9 12392 _ (sb ++ [.inl 1, .inr (4, m6)]) ad6 (126, [(0, .ref q), (1, .ref x), (2, .int (Int32.ofNat a)), (3, .ref sh.length)], [.ref sb.length], I6, G5, P5)
  refine am_blk 126 [(.aload_n 3, 1, 3, 0, .null)] (127, [(0, .ref q), (1, .ref x), (2, .int (Int32.ofNat a)), (3, .ref sh.length)], [.ref sh.length, .ref sb.length], I6, G5, P5) True hX6 hi (by decide +kernel) rfl trivial ?_
  refine c_S (sh := sb) hX6 hi hm (idx := 37) (by decide +kernel) (by decide +kernel) (by decide) rfl (Nat.le_of_ble_eq_true rfl) ⟨by omega, by omega⟩ hc6 (by rw [hsb]; exact xS_new (I := I) (P := P) (f := f4) aT4 (by omega) hf4 (fun k hk => (hc6.1 k (by rw [eb]; exact hk)).1) (fun k hk => (hc6.1 k (by rw [eb]; exact hk)).2.2)) (by simp only [List.length_append, List.length_nil, wl_35, wl_48, wl_50, wl_52, wl_60, wl_62, wl_64, wl_66, wl_68, wl_70, wl_72, wl_74, wl_76, wl_78, wl_80, wl_82, wl_84, wl_104, wl_106, wl_108, wl_118, wl_120, wl_122, wl_124, wl_126, wl_128, wl_130, wl_135, wl_137, wl_139, wl_141, wl_143, wl_145, wl_147, wl_149, wl_151, wl_153, wl_155]; have := dT_3 (n - 1); omega) (by rw [eb]; omega) hRb (am_kqL_r (Or.inl (by rw [eb]; omega)) (am_kqL_r (Or.inl (by rw [eb]; omega)) (am_kqL_i (am_kqL_r (Or.inl (by rw [eb]; omega)) am_kqL_n)))) am_kqS_n (fun ad7 m7 I7 ha7 hX7 hc7 => ?_)
  have ea7 : ∀ j, j < sh.length ∨ 1000 ≤ j → ad7 j = ad j := fun j hj => (ha7 j (by rw [eb]; omega)).trans (ea6 j hj)
  show am_V X 10 16488 _ (sb ++ [.inl 1, .inr (4, m7)]) ad7 (130, [(0, .ref q), (1, .ref x), (2, .int (Int32.ofNat a)), (3, .ref sh.length)], [.ref sb.length], I7, G5, P5)
  refine am_ldcS hX7 hi (i := 45) (idx := 78) rfl rfl rfl (by decide +kernel) ?_
  refine c_S (sh := sb) hX7 hi hm (idx := 37) (by decide +kernel) (by decide +kernel) (by decide) rfl (Nat.le_of_ble_eq_true rfl) ⟨by omega, by omega⟩ hc7 x_78 (by simp only [List.length_append, List.length_nil, wl_35, wl_48, wl_50, wl_52, wl_60, wl_62, wl_64, wl_66, wl_68, wl_70, wl_72, wl_74, wl_76, wl_78, wl_80, wl_82, wl_84, wl_104, wl_106, wl_108, wl_118, wl_120, wl_122, wl_124, wl_126, wl_128, wl_130, wl_135, wl_137, wl_139, wl_141, wl_143, wl_145, wl_147, wl_149, wl_151, wl_153, wl_155]; have := dT_3 (n - 1); omega) (by rw [eb]; omega) hRb (am_kqL_r (Or.inl (by rw [eb]; omega)) (am_kqL_r (Or.inl (by rw [eb]; omega)) (am_kqL_i (am_kqL_r (Or.inl (by rw [eb]; omega)) am_kqL_n)))) am_kqS_n (fun ad8 m8 I8 ha8 hX8 hc8 => ?_)
  have ea8 : ∀ j, j < sh.length ∨ 1000 ≤ j → ad8 j = ad j := fun j hj => (ha8 j (by rw [eb]; omega)).trans (ea7 j hj)
  show am_V X 11 20584 _ (sb ++ [.inl 1, .inr (4, m8)]) ad8 (135, [(0, .ref q), (1, .ref x), (2, .int (Int32.ofNat a)), (3, .ref sh.length)], [.ref sb.length], I8, G5, P5)
  refine am_blk 135 [(.bipush (30), 2, 0, 0, .int (30 : Int32)), (.iload_n 2, 1, 2, 0, .null), (.iconst (1), 1, 0, 0, .int (1 : Int32)), (.iadd, 1, 0, 0, .null), (.imul, 1, 0, 0, .null)] (141, [(0, .ref q), (1, .ref x), (2, .int (Int32.ofNat a)), (3, .ref sh.length)], [.int ((30 : Int32) * ((Int32.ofNat a) + (1 : Int32))), .ref sb.length], I8, G5, P5) True hX8 hi (by decide +kernel) rfl trivial ?_
  refine c_N (sh := sb) (x := 30 * (a + 1)) hX8 hi hm (idx := 41) (by decide +kernel) (by decide +kernel) (by decide) ((st_nat a ha).2) rfl (Nat.le_of_ble_eq_true rfl) ⟨by omega, by omega⟩ hc8 (by omega) (by simp only [List.length_append, List.length_nil, wl_35, wl_48, wl_50, wl_52, wl_60, wl_62, wl_64, wl_66, wl_68, wl_70, wl_72, wl_74, wl_76, wl_78, wl_80, wl_82, wl_84, wl_104, wl_106, wl_108, wl_118, wl_120, wl_122, wl_124, wl_126, wl_128, wl_130, wl_135, wl_137, wl_139, wl_141, wl_143, wl_145, wl_147, wl_149, wl_151, wl_153, wl_155]; have := dT_3 (n - 1); have := dT_3 (30 * (a + 1)); omega) (by rw [eb]; omega) hRb (am_kqL_r (Or.inl (by rw [eb]; omega)) (am_kqL_r (Or.inl (by rw [eb]; omega)) (am_kqL_i (am_kqL_r (Or.inl (by rw [eb]; omega)) am_kqL_n)))) am_kqS_n (fun ad9 m9 I9 ha9 hX9 hc9 => ?_)
  have ea9 : ∀ j, j < sh.length ∨ 1000 ≤ j → ad9 j = ad j := fun j hj => (ha9 j (by rw [eb]; omega)).trans (ea8 j hj)
  show am_V X 12 24680 _ (sb ++ [.inl 1, .inr (4, m9)]) ad9 (144, [(0, .ref q), (1, .ref x), (2, .int (Int32.ofNat a)), (3, .ref sh.length)], [.ref sb.length], I9, G5, P5)
  refine am_ldcS hX9 hi (i := 46) (idx := 80) rfl rfl rfl (by decide +kernel) ?_
  refine c_S (sh := sb) hX9 hi hm (idx := 37) (by decide +kernel) (by decide +kernel) (by decide) rfl (Nat.le_of_ble_eq_true rfl) ⟨by omega, by omega⟩ hc9 x_80 (by simp only [List.length_append, List.length_nil, wl_35, wl_48, wl_50, wl_52, wl_60, wl_62, wl_64, wl_66, wl_68, wl_70, wl_72, wl_74, wl_76, wl_78, wl_80, wl_82, wl_84, wl_104, wl_106, wl_108, wl_118, wl_120, wl_122, wl_124, wl_126, wl_128, wl_130, wl_135, wl_137, wl_139, wl_141, wl_143, wl_145, wl_147, wl_149, wl_151, wl_153, wl_155]; have := dT_3 (n - 1); have := dT_3 (30 * (a + 1)); omega) (by rw [eb]; omega) hRb (am_kqL_r (Or.inl (by rw [eb]; omega)) (am_kqL_r (Or.inl (by rw [eb]; omega)) (am_kqL_i (am_kqL_r (Or.inl (by rw [eb]; omega)) am_kqL_n)))) am_kqS_n (fun ad10 m10 I10 ha10 hX10 hc10 => ?_)
  have ea10 : ∀ j, j < sh.length ∨ 1000 ≤ j → ad10 j = ad j := fun j hj => (ha10 j (by rw [eb]; omega)).trans (ea9 j hj)
  show am_V X 13 28776 _ (sb ++ [.inl 1, .inr (4, m10)]) ad10 (149, [(0, .ref q), (1, .ref x), (2, .int (Int32.ofNat a)), (3, .ref sh.length)], [.ref sb.length], I10, G5, P5)
  have hT11 : ((((([] ++ w_76) ++ (([] ++ w_70) ++ dT (n - 1))) ++ w_78) ++ dT (30 * (a + 1))) ++ w_80).length ≤ 60 := by simp only [List.length_append, List.length_nil, wl_35, wl_48, wl_50, wl_52, wl_60, wl_62, wl_64, wl_66, wl_68, wl_70, wl_72, wl_74, wl_76, wl_78, wl_80, wl_82, wl_84, wl_104, wl_106, wl_108, wl_118, wl_120, wl_122, wl_124, wl_126, wl_128, wl_130, wl_135, wl_137, wl_139, wl_141, wl_143, wl_145, wl_147, wl_149, wl_151, wl_153, wl_155]; have := dT_3 (n - 1); have := dT_3 (30 * (a + 1)); omega
  have aT11 : aT ((((([] ++ w_76) ++ (([] ++ w_70) ++ dT (n - 1))) ++ w_78) ++ dT (30 * (a + 1))) ++ w_80) := hc10.2.1.2.2.2.2.2.2.2.1
  refine c_tos (sh := sb) hX10 hi hm (idx := 44) (by decide +kernel) (by decide +kernel) (by decide) rfl (Nat.le_of_ble_eq_true rfl) ⟨by omega, by omega⟩ hc10 (by rw [eb]; omega) hRb (am_kqL_r (Or.inl (by rw [eb]; omega)) (am_kqL_r (Or.inl (by rw [eb]; omega)) (am_kqL_i (am_kqL_r (Or.inl (by rw [eb]; omega)) am_kqL_n)))) am_kqS_n (fun ad11 f11 ha11 hX11 hf11 => ?_)
  have ea11 : ∀ j, j < sh.length ∨ 1000 ≤ j → ad11 j = ad j := fun j hj => (ha11 j (by rw [eb]; omega)).trans (ea10 j hj)
  refine am_wid hm (cells' := 15) (slots' := 28840) ⟨by omega, by omega⟩ ⟨by omega, by omega⟩ ?_
  show am_V X 15 28840 _ (sb ++ [.inl 0, .inr (4, ((((([] ++ w_76) ++ (([] ++ w_70) ++ dT (n - 1))) ++ w_78) ++ dT (30 * (a + 1))) ++ w_80).length)]) ad11 (152, [(0, .ref q), (1, .ref x), (2, .int (Int32.ofNat a)), (3, .ref sh.length)], [.ref sb.length], (am_row (am_row (am_row (am_row I sh.length (fun _ => 0)) (sh.length + 1) f4) sb.length (fun _ => 0)) (sb.length + 1) f11), G, (am_up (am_z (am_up (am_z P sh.length .null) sh.length 0 (.ref (sh.length + 1))) sb.length .null) sb.length 0 (.ref (sb.length + 1))))
  refine am_sub (L' := [(0, .ref q), (1, .ref x), (2, .int (Int32.ofNat a))]) (fun q hq => by simp at hq ⊢; rcases hq with h | h | h <;> simp [h]) ?_
  simp only [eb]
  have e9 : sb ++ [(.inl 0 : am_Sh), .inr (4, ((((([] ++ w_76) ++ (([] ++ w_70) ++ dT (n - 1))) ++ w_78) ++ dT (30 * (a + 1))) ++ w_80).length)] = sh ++ [(.inl 0 : am_Sh), .inr (4, (([] ++ w_70) ++ dT (n - 1)).length), .inl 0, .inr (4, ((((([] ++ w_76) ++ (([] ++ w_70) ++ dT (n - 1))) ++ w_78) ++ dT (30 * (a + 1))) ++ w_80).length)] := by rw [hsb, List.append_assoc]; rfl
  rw [e9]
  refine ren2 (sh := sh) (I0 := I) (G0 := G) (P0 := P) (f := f11) (rest := []) hX11 (fun k hk => ⟨?_, rfl, ?_⟩) (fun j hj => ?_) ?_ ?_ rfl (by omega) hR (am_kqL_r (Or.inl (by omega)) (am_kqL_r (Or.inl (by omega)) (am_kqL_i am_kqL_n))) am_kqS_n (fun ad99 ha99 hX99 => ?_)
  · rw [am_row_ne _ _ (by omega), am_row_ne _ _ (by omega), am_row_ne _ _ (by omega), am_row_ne _ _ (by omega)]
  · rw [am_up_rowb _ _ _ (by omega), am_z_ne _ _ (by omega), am_up_rowb _ _ _ (by omega), am_z_ne _ _ (by omega)]
  · rw [am_row_ne _ _ (by omega), am_row_self]
  · exact am_row_self _ _ _
  · exact am_up_self _ _ _ _
  exact am_aretA hX99 hi rfl (by decide +kernel) (fun j hj => (ha99 j hj).trans (ea11 j hj)) ⟨_, _, rfl, rfl, Or.inr ⟨rfl, rfl, rfl, aT11, hT11, f11, hf11, rfl, rfl⟩⟩ ⟨by omega, by omega⟩
set_option maxHeartbeats 2000000 in
theorem s_test4 {a : Nat} (ha : a < 3) (hq : sh[q]? = some (.inr (0, 6))) (hz : sh[x]? = some (.inl 12)) (hlv : sh[v]? = some (.inr (0, n))) (hPz : P x 4 = .ref v) (hn1 : 1 ≤ n) (hn4 : n ≤ 4) (hl : sh.length + 20 < 1000) (hR : lR sh.length sh P) (h4 : I q 4 = 4) (h5 : I q 5 = Int32.ofNat a) : am_CtA mL_test 7 24 70000 sh.length sh [.ref q, .ref x] I G P (pStr sh ((([] ++ w_82) ++ (([] ++ w_70) ++ dT (n - 1))) ++ w_84) I G P) := by
  have lq := am_at_lt hq
  have lz := am_at_lt hz
  refine am_ofA (by decide +kernel) rfl (by decide) (by decide) (Nat.le_of_ble_eq_true rfl) (fun X ad hX hi hm => ?_)
  have hi : am_info X 15 cL_test 4 false (some (FieldType.object "java/lang/String")) 7 := hi
  have hm : am_mem X 24 70000 := hm
  show am_V X _ _ _ sh ad (0, [(0, .ref q), (1, .ref x)], [], I, G, P)
  refine am_blk 0 [(.aload_n 0, 1, 0, 0, .null), (.iconst (5), 1, 0, 0, .int (5 : Int32))] (2, [(0, .ref q), (1, .ref x)], [.int (5 : Int32), .ref q], I, G, P) True hX hi (by decide +kernel) rfl trivial ?_
  refine am_iaS hX hi (v := (Int32.ofNat a)) hq ((i_in _ _).mpr (by decide)) h5 (by decide +kernel) ?_
  refine am_blk 3 [(.istore_n 2, 1, 2, 0, .null)] (4, [(0, .ref q), (1, .ref x), (2, .int (Int32.ofNat a))], [], I, G, P) True hX hi (by decide +kernel) rfl trivial ?_
  refine c_new (sh := sh) (i1 := 32) (i2 := 34) hX hi hm cl_32 (by decide +kernel) (by decide +kernel) (by decide +kernel) (by decide +kernel) (by decide) (Nat.le_of_ble_eq_true rfl) ⟨by omega, by omega⟩ (by omega) hR (am_kqL_r (Or.inl (by omega)) (am_kqL_r (Or.inl (by omega)) (am_kqL_i am_kqL_n))) am_kqS_n (fun ad1 I1 G1 P1 ha1 hX1 hc1 => ?_)
  have ea1 : ∀ j, j < sh.length ∨ 1000 ≤ j → ad1 j = ad j := fun j hj => (ha1 j (by omega)).trans ((fun _ _ => rfl) j hj)
  refine am_wid hm (cells' := 2) (slots' := 20) ⟨by omega, by omega⟩ ⟨by omega, by omega⟩ ?_
  show am_V X 2 20 _ (sh ++ [.inl 1, .inr (4, 16)]) ad1 (11, [(0, .ref q), (1, .ref x), (2, .int (Int32.ofNat a))], [.ref sh.length], I1, G1, P1)
  refine am_ldcS hX1 hi (i := 41) (idx := 70) rfl rfl rfl (by decide +kernel) ?_
  refine c_S (sh := sh) hX1 hi hm (idx := 37) (by decide +kernel) (by decide +kernel) (by decide) rfl (Nat.le_of_ble_eq_true rfl) ⟨by omega, by omega⟩ hc1 x_70 (by simp only [List.length_append, List.length_nil, wl_35, wl_48, wl_50, wl_52, wl_60, wl_62, wl_64, wl_66, wl_68, wl_70, wl_72, wl_74, wl_76, wl_78, wl_80, wl_82, wl_84, wl_104, wl_106, wl_108, wl_118, wl_120, wl_122, wl_124, wl_126, wl_128, wl_130, wl_135, wl_137, wl_139, wl_141, wl_143, wl_145, wl_147, wl_149, wl_151, wl_153, wl_155]; omega) (by omega) hR (am_kqL_r (Or.inl (by omega)) (am_kqL_r (Or.inl (by omega)) (am_kqL_i am_kqL_n))) am_kqS_n (fun ad2 m2 I2 ha2 hX2 hc2 => ?_)
  have ea2 : ∀ j, j < sh.length ∨ 1000 ≤ j → ad2 j = ad j := fun j hj => (ha2 j (by omega)).trans (ea1 j hj)
  show am_V X 3 4116 _ (sh ++ [.inl 1, .inr (4, m2)]) ad2 (16, [(0, .ref q), (1, .ref x), (2, .int (Int32.ofNat a))], [.ref sh.length], I2, G1, P1)
  refine am_blk 16 [(.aload_n 1, 1, 1, 0, .null)] (17, [(0, .ref q), (1, .ref x), (2, .int (Int32.ofNat a))], [.ref x, .ref sh.length], I2, G1, P1) True hX2 hi (by decide +kernel) rfl trivial ?_
  refine am_gfP hX2 hi (c := 12) (b := 4) (idx := 54) (am_at_app hz) rfl (by decide +kernel) (by rw [(hc2.1 _ lz).2.2]; exact hPz) (by decide +kernel) ?_
  refine am_lenS hX2 hi (am_at_app hlv) (by decide +kernel) ?_
  refine am_blk 21 [(.iconst (1), 1, 0, 0, .int (1 : Int32)), (.isub, 1, 0, 0, .null)] (23, [(0, .ref q), (1, .ref x), (2, .int (Int32.ofNat a))], [.int ((Int32.ofNat n) - (1 : Int32)), .ref sh.length], I2, G1, P1) True hX2 hi (by decide +kernel) rfl trivial ?_
  refine c_N (sh := sh) (x := n - 1) hX2 hi hm (idx := 41) (by decide +kernel) (by decide +kernel) (by decide) (pk_sub (a := n) (b := 1) (by omega)) rfl (Nat.le_of_ble_eq_true rfl) ⟨by omega, by omega⟩ hc2 (by omega) (by simp only [List.length_append, List.length_nil, wl_35, wl_48, wl_50, wl_52, wl_60, wl_62, wl_64, wl_66, wl_68, wl_70, wl_72, wl_74, wl_76, wl_78, wl_80, wl_82, wl_84, wl_104, wl_106, wl_108, wl_118, wl_120, wl_122, wl_124, wl_126, wl_128, wl_130, wl_135, wl_137, wl_139, wl_141, wl_143, wl_145, wl_147, wl_149, wl_151, wl_153, wl_155]; have := dT_3 (n - 1); omega) (by omega) hR (am_kqL_r (Or.inl (by omega)) (am_kqL_r (Or.inl (by omega)) (am_kqL_i am_kqL_n))) am_kqS_n (fun ad3 m3 I3 ha3 hX3 hc3 => ?_)
  have ea3 : ∀ j, j < sh.length ∨ 1000 ≤ j → ad3 j = ad j := fun j hj => (ha3 j (by omega)).trans (ea2 j hj)
  show am_V X 4 8212 _ (sh ++ [.inl 1, .inr (4, m3)]) ad3 (26, [(0, .ref q), (1, .ref x), (2, .int (Int32.ofNat a))], [.ref sh.length], I3, G1, P1)
  have hT4 : (([] ++ w_70) ++ dT (n - 1)).length ≤ 60 := by simp only [List.length_append, List.length_nil, wl_35, wl_48, wl_50, wl_52, wl_60, wl_62, wl_64, wl_66, wl_68, wl_70, wl_72, wl_74, wl_76, wl_78, wl_80, wl_82, wl_84, wl_104, wl_106, wl_108, wl_118, wl_120, wl_122, wl_124, wl_126, wl_128, wl_130, wl_135, wl_137, wl_139, wl_141, wl_143, wl_145, wl_147, wl_149, wl_151, wl_153, wl_155]; have := dT_3 (n - 1); omega
  have aT4 : aT (([] ++ w_70) ++ dT (n - 1)) := hc3.2.1.2.2.2.2.2.2.2.1
  refine c_tos (sh := sh) hX3 hi hm (idx := 44) (by decide +kernel) (by decide +kernel) (by decide) rfl (Nat.le_of_ble_eq_true rfl) ⟨by omega, by omega⟩ hc3 (by omega) hR (am_kqL_r (Or.inl (by omega)) (am_kqL_r (Or.inl (by omega)) (am_kqL_i am_kqL_n))) am_kqS_n (fun ad4 f4 ha4 hX4 hf4 => ?_)
  have ea4 : ∀ j, j < sh.length ∨ 1000 ≤ j → ad4 j = ad j := fun j hj => (ha4 j (by omega)).trans (ea3 j hj)
  refine am_wid hm (cells' := 6) (slots' := 8276) ⟨by omega, by omega⟩ ⟨by omega, by omega⟩ ?_
  show am_V X 6 8276 _ (sh ++ [.inl 0, .inr (4, (([] ++ w_70) ++ dT (n - 1)).length)]) ad4 (29, [(0, .ref q), (1, .ref x), (2, .int (Int32.ofNat a))], [.ref sh.length], (am_row (am_row I sh.length (fun _ => 0)) (sh.length + 1) f4), G, (am_up (am_z P sh.length .null) sh.length 0 (.ref (sh.length + 1))))
  refine am_blk 29 [(.astore_n 3, 1, 3, 0, .null), (.aload_n 0, 1, 0, 0, .null), (.iconst (4), 1, 0, 0, .int (4 : Int32))] (32, [(0, .ref q), (1, .ref x), (2, .int (Int32.ofNat a)), (3, .ref sh.length)], [.int (4 : Int32), .ref q], (am_row (am_row I sh.length (fun _ => 0)) (sh.length + 1) f4), G, (am_up (am_z P sh.length .null) sh.length 0 (.ref (sh.length + 1)))) True hX4 hi (by decide +kernel) rfl trivial ?_
  refine am_iaS hX4 hi (v := (4 : Int32)) (am_at_app hq) ((i_in _ _).mpr (by decide)) (by rw [am_row_ne _ _ (by omega), am_row_ne _ _ (by omega)]; exact h4) (by decide +kernel) ?_
  refine am_tso hX4 hi (dflt := 120) (lo := 0) (hi' := 3) (offs := #[31, 34, 54, 81]) (len := 31) (tgt := 153) (by decide +kernel) (Or.inr (by decide)) (by decide) ?_
  show am_V X 6 8276 _ (sh ++ [.inl 0, .inr (4, (([] ++ w_70) ++ dT (n - 1)).length)]) ad4 (153, [(0, .ref q), (1, .ref x), (2, .int (Int32.ofNat a)), (3, .ref sh.length)], [], (am_row (am_row I sh.length (fun _ => 0)) (sh.length + 1) f4), G, (am_up (am_z P sh.length .null) sh.length 0 (.ref (sh.length + 1))))
  obtain ⟨sb, hsb⟩ : ∃ sb, sb = sh ++ [(.inl 0 : am_Sh), .inr (4, (([] ++ w_70) ++ dT (n - 1)).length)] := ⟨_, rfl⟩
  have eb : sb.length = sh.length + 2 := by rw [hsb]; exact len2
  have hRb : lR sb.length sb (am_up (am_z P sh.length .null) sh.length 0 (.ref (sh.length + 1))) := by rw [eb, hsb]; exact hR.str
  rw [← hsb]
  show am_V X 6 8276 _ sb ad4 (153, [(0, .ref q), (1, .ref x), (2, .int (Int32.ofNat a)), (3, .ref sh.length)], [], (am_row (am_row I sh.length (fun _ => 0)) (sh.length + 1) f4), G, (am_up (am_z P sh.length .null) sh.length 0 (.ref (sh.length + 1))))
  refine c_new (sh := sb) (i1 := 32) (i2 := 34) hX4 hi hm cl_32 (by decide +kernel) (by decide +kernel) (by decide +kernel) (by decide +kernel) (by decide) (Nat.le_of_ble_eq_true rfl) ⟨by omega, by omega⟩ (by rw [eb]; omega) hRb (am_kqL_r (Or.inl (by rw [eb]; omega)) (am_kqL_r (Or.inl (by rw [eb]; omega)) (am_kqL_i (am_kqL_r (Or.inl (by rw [eb]; omega)) am_kqL_n)))) am_kqS_n (fun ad5 I5 G5 P5 ha5 hX5 hc5 => ?_)
  have ea5 : ∀ j, j < sh.length ∨ 1000 ≤ j → ad5 j = ad j := fun j hj => (ha5 j (by rw [eb]; omega)).trans (ea4 j hj)
  refine am_wid hm (cells' := 8) (slots' := 8296) ⟨by omega, by omega⟩ ⟨by omega, by omega⟩ ?_
  show am_V X 8 8296 _ (sb ++ [.inl 1, .inr (4, 16)]) ad5 (160, [(0, .ref q), (1, .ref x), (2, .int (Int32.ofNat a)), (3, .ref sh.length)], [.ref sb.length], I5, G5, P5)
  refine am_ldcS hX5 hi (i := 47) (idx := 82) rfl rfl rfl (by decide +kernel) ?_
  refine c_S (sh := sb) hX5 hi hm (idx := 37) (by decide +kernel) (by decide +kernel) (by decide) rfl (Nat.le_of_ble_eq_true rfl) ⟨by omega, by omega⟩ hc5 x_82 (by simp only [List.length_append, List.length_nil, wl_35, wl_48, wl_50, wl_52, wl_60, wl_62, wl_64, wl_66, wl_68, wl_70, wl_72, wl_74, wl_76, wl_78, wl_80, wl_82, wl_84, wl_104, wl_106, wl_108, wl_118, wl_120, wl_122, wl_124, wl_126, wl_128, wl_130, wl_135, wl_137, wl_139, wl_141, wl_143, wl_145, wl_147, wl_149, wl_151, wl_153, wl_155]; omega) (by rw [eb]; omega) hRb (am_kqL_r (Or.inl (by rw [eb]; omega)) (am_kqL_r (Or.inl (by rw [eb]; omega)) (am_kqL_i (am_kqL_r (Or.inl (by rw [eb]; omega)) am_kqL_n)))) am_kqS_n (fun ad6 m6 I6 ha6 hX6 hc6 => ?_)
  have ea6 : ∀ j, j < sh.length ∨ 1000 ≤ j → ad6 j = ad j := fun j hj => (ha6 j (by rw [eb]; omega)).trans (ea5 j hj)
  show am_V X 9 12392 _ (sb ++ [.inl 1, .inr (4, m6)]) ad6 (165, [(0, .ref q), (1, .ref x), (2, .int (Int32.ofNat a)), (3, .ref sh.length)], [.ref sb.length], I6, G5, P5)
  refine am_blk 165 [(.aload_n 3, 1, 3, 0, .null)] (166, [(0, .ref q), (1, .ref x), (2, .int (Int32.ofNat a)), (3, .ref sh.length)], [.ref sh.length, .ref sb.length], I6, G5, P5) True hX6 hi (by decide +kernel) rfl trivial ?_
  refine c_S (sh := sb) hX6 hi hm (idx := 37) (by decide +kernel) (by decide +kernel) (by decide) rfl (Nat.le_of_ble_eq_true rfl) ⟨by omega, by omega⟩ hc6 (by rw [hsb]; exact xS_new (I := I) (P := P) (f := f4) aT4 (by omega) hf4 (fun k hk => (hc6.1 k (by rw [eb]; exact hk)).1) (fun k hk => (hc6.1 k (by rw [eb]; exact hk)).2.2)) (by simp only [List.length_append, List.length_nil, wl_35, wl_48, wl_50, wl_52, wl_60, wl_62, wl_64, wl_66, wl_68, wl_70, wl_72, wl_74, wl_76, wl_78, wl_80, wl_82, wl_84, wl_104, wl_106, wl_108, wl_118, wl_120, wl_122, wl_124, wl_126, wl_128, wl_130, wl_135, wl_137, wl_139, wl_141, wl_143, wl_145, wl_147, wl_149, wl_151, wl_153, wl_155]; have := dT_3 (n - 1); omega) (by rw [eb]; omega) hRb (am_kqL_r (Or.inl (by rw [eb]; omega)) (am_kqL_r (Or.inl (by rw [eb]; omega)) (am_kqL_i (am_kqL_r (Or.inl (by rw [eb]; omega)) am_kqL_n)))) am_kqS_n (fun ad7 m7 I7 ha7 hX7 hc7 => ?_)
  have ea7 : ∀ j, j < sh.length ∨ 1000 ≤ j → ad7 j = ad j := fun j hj => (ha7 j (by rw [eb]; omega)).trans (ea6 j hj)
  show am_V X 10 16488 _ (sb ++ [.inl 1, .inr (4, m7)]) ad7 (169, [(0, .ref q), (1, .ref x), (2, .int (Int32.ofNat a)), (3, .ref sh.length)], [.ref sb.length], I7, G5, P5)
  refine am_ldcS hX7 hi (i := 48) (idx := 84) rfl rfl rfl (by decide +kernel) ?_
  refine c_S (sh := sb) hX7 hi hm (idx := 37) (by decide +kernel) (by decide +kernel) (by decide) rfl (Nat.le_of_ble_eq_true rfl) ⟨by omega, by omega⟩ hc7 x_84 (by simp only [List.length_append, List.length_nil, wl_35, wl_48, wl_50, wl_52, wl_60, wl_62, wl_64, wl_66, wl_68, wl_70, wl_72, wl_74, wl_76, wl_78, wl_80, wl_82, wl_84, wl_104, wl_106, wl_108, wl_118, wl_120, wl_122, wl_124, wl_126, wl_128, wl_130, wl_135, wl_137, wl_139, wl_141, wl_143, wl_145, wl_147, wl_149, wl_151, wl_153, wl_155]; have := dT_3 (n - 1); omega) (by rw [eb]; omega) hRb (am_kqL_r (Or.inl (by rw [eb]; omega)) (am_kqL_r (Or.inl (by rw [eb]; omega)) (am_kqL_i (am_kqL_r (Or.inl (by rw [eb]; omega)) am_kqL_n)))) am_kqS_n (fun ad8 m8 I8 ha8 hX8 hc8 => ?_)
  have ea8 : ∀ j, j < sh.length ∨ 1000 ≤ j → ad8 j = ad j := fun j hj => (ha8 j (by rw [eb]; omega)).trans (ea7 j hj)
  show am_V X 11 20584 _ (sb ++ [.inl 1, .inr (4, m8)]) ad8 (174, [(0, .ref q), (1, .ref x), (2, .int (Int32.ofNat a)), (3, .ref sh.length)], [.ref sb.length], I8, G5, P5)
  have hT9 : ((([] ++ w_82) ++ (([] ++ w_70) ++ dT (n - 1))) ++ w_84).length ≤ 60 := by simp only [List.length_append, List.length_nil, wl_35, wl_48, wl_50, wl_52, wl_60, wl_62, wl_64, wl_66, wl_68, wl_70, wl_72, wl_74, wl_76, wl_78, wl_80, wl_82, wl_84, wl_104, wl_106, wl_108, wl_118, wl_120, wl_122, wl_124, wl_126, wl_128, wl_130, wl_135, wl_137, wl_139, wl_141, wl_143, wl_145, wl_147, wl_149, wl_151, wl_153, wl_155]; have := dT_3 (n - 1); omega
  have aT9 : aT ((([] ++ w_82) ++ (([] ++ w_70) ++ dT (n - 1))) ++ w_84) := hc8.2.1.2.2.2.2.2.2.2.1
  refine c_tos (sh := sb) hX8 hi hm (idx := 44) (by decide +kernel) (by decide +kernel) (by decide) rfl (Nat.le_of_ble_eq_true rfl) ⟨by omega, by omega⟩ hc8 (by rw [eb]; omega) hRb (am_kqL_r (Or.inl (by rw [eb]; omega)) (am_kqL_r (Or.inl (by rw [eb]; omega)) (am_kqL_i (am_kqL_r (Or.inl (by rw [eb]; omega)) am_kqL_n)))) am_kqS_n (fun ad9 f9 ha9 hX9 hf9 => ?_)
  have ea9 : ∀ j, j < sh.length ∨ 1000 ≤ j → ad9 j = ad j := fun j hj => (ha9 j (by rw [eb]; omega)).trans (ea8 j hj)
  refine am_wid hm (cells' := 13) (slots' := 20648) ⟨by omega, by omega⟩ ⟨by omega, by omega⟩ ?_
  show am_V X 13 20648 _ (sb ++ [.inl 0, .inr (4, ((([] ++ w_82) ++ (([] ++ w_70) ++ dT (n - 1))) ++ w_84).length)]) ad9 (177, [(0, .ref q), (1, .ref x), (2, .int (Int32.ofNat a)), (3, .ref sh.length)], [.ref sb.length], (am_row (am_row (am_row (am_row I sh.length (fun _ => 0)) (sh.length + 1) f4) sb.length (fun _ => 0)) (sb.length + 1) f9), G, (am_up (am_z (am_up (am_z P sh.length .null) sh.length 0 (.ref (sh.length + 1))) sb.length .null) sb.length 0 (.ref (sb.length + 1))))
  refine am_sub (L' := [(0, .ref q), (1, .ref x), (2, .int (Int32.ofNat a))]) (fun q hq => by simp at hq ⊢; rcases hq with h | h | h <;> simp [h]) ?_
  simp only [eb]
  have e9 : sb ++ [(.inl 0 : am_Sh), .inr (4, ((([] ++ w_82) ++ (([] ++ w_70) ++ dT (n - 1))) ++ w_84).length)] = sh ++ [(.inl 0 : am_Sh), .inr (4, (([] ++ w_70) ++ dT (n - 1)).length), .inl 0, .inr (4, ((([] ++ w_82) ++ (([] ++ w_70) ++ dT (n - 1))) ++ w_84).length)] := by rw [hsb, List.append_assoc]; rfl
  rw [e9]
  refine ren2 (sh := sh) (I0 := I) (G0 := G) (P0 := P) (f := f9) (rest := []) hX9 (fun k hk => ⟨?_, rfl, ?_⟩) (fun j hj => ?_) ?_ ?_ rfl (by omega) hR (am_kqL_r (Or.inl (by omega)) (am_kqL_r (Or.inl (by omega)) (am_kqL_i am_kqL_n))) am_kqS_n (fun ad99 ha99 hX99 => ?_)
  · rw [am_row_ne _ _ (by omega), am_row_ne _ _ (by omega), am_row_ne _ _ (by omega), am_row_ne _ _ (by omega)]
  · rw [am_up_rowb _ _ _ (by omega), am_z_ne _ _ (by omega), am_up_rowb _ _ _ (by omega), am_z_ne _ _ (by omega)]
  · rw [am_row_ne _ _ (by omega), am_row_self]
  · exact am_row_self _ _ _
  · exact am_up_self _ _ _ _
  exact am_aretA hX99 hi rfl (by decide +kernel) (fun j hj => (ha99 j hj).trans (ea9 j hj)) ⟨_, _, rfl, rfl, Or.inr ⟨rfl, rfl, rfl, aT9, hT9, f9, hf9, rfl, rfl⟩⟩ ⟨by omega, by omega⟩
def testT (k a n : Nat) : List Nat := match k with
  | 0 => w_35
  | 1 => (([] ++ w_72) ++ dT (a))
  | 2 => (([] ++ w_74) ++ dT (440 + 40 * a))
  | 3 => ((((([] ++ w_76) ++ (([] ++ w_70) ++ dT (n - 1))) ++ w_78) ++ dT (30 * (a + 1))) ++ w_80)
  | _ => ((([] ++ w_82) ++ (([] ++ w_70) ++ dT (n - 1))) ++ w_84)
theorem ls_test {k a : Nat} (hk : k < 5) (ha : a < 3) (hq : sh[q]? = some (.inr (0, 6))) (hz : sh[x]? = some (.inl 12)) (hlv : sh[v]? = some (.inr (0, n))) (hPz : P x 4 = .ref v) (hn1 : 1 ≤ n) (hn4 : n ≤ 4) (hl : sh.length + 20 < 1000) (hR : lR sh.length sh P) (h4 : I q 4 = Int32.ofNat k) (h5 : I q 5 = Int32.ofNat a) : am_CtA mL_test 7 24 70000 sh.length sh [.ref q, .ref x] I G P (pStr sh (testT k a n) I G P) := by
  match k, hk with
  | 0, _ => exact s_test0 ha hq hz hlv hPz hn1 hn4 hl hR h4 h5
  | 1, _ => exact s_test1 ha hq hz hlv hPz hn1 hn4 hl hR h4 h5
  | 2, _ => exact s_test2 ha hq hz hlv hPz hn1 hn4 hl hR h4 h5
  | 3, _ => exact s_test3 ha hq hz hlv hPz hn1 hn4 hl hR h4 h5
  | 4, _ => exact s_test4 ha hq hz hlv hPz hn1 hn4 hl hR h4 h5
  | k + 5, h => omega
end AMTE
