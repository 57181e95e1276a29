theorem jn_ex {α β : Type} {k : α} {f : α → Option β} {r : β} (h : jn k f = some r) : ∃ j, j = k ∧ f j = some r := ⟨k, rfl, h⟩
theorem L_of_R {x : Int} (h : inR x) : inL x := ⟨by have := h.1; omega, by have := h.2; omega⟩
theorem Z_R {x : Int} (h : x = 0 ∨ x = 1) : inR x := by rcases h with rfl | rfl <;> exact ⟨by decide, by decide⟩
theorem Z_of {x : Int} (h : x = 0 ∨ x = 1) : Int32.ofInt x = 0 ∨ Int32.ofInt x = 1 := by rcases h with rfl | rfl <;> decide
def pZ (b : Bool) (v : Int) (ρ o : pm) : Option Value → ci_W → Prop := fun v' w' => (v' = some (.int (Int32.ofInt v)) ∧ w' = pk b ρ o) ∧ (v = 0 ∨ v = 1)
section TSW
variable {y : MethodName} {cc : ByteArray} {nL : Nat} {ret : Option FieldType} {d t df : Nat} {lo hi x k : Int} {ts : List Nat} {st : ci_S} {Post : Option Value → ci_W → Prop}
theorem tsw_T (hc : x = k) (ht : tswp lo ts df k = t) (g : ci_T y cc nL ret d t st Post) : ci_T y cc nL ret d (tswp lo ts df x) st Post := by
  rw [hc, ht]
  exact g
theorem tsw_D (hh : hi - lo + 1 = (ts.length : Int)) (h : x < lo ∨ hi < x) (g : ci_T y cc nL ret d df st Post) : ci_T y cc nL ret d (tswp lo ts df x) st Post := by
  rw [tswp_df hh h]
  exact g
end TSW
theorem pc_m20 : (-20 : Int32) = Int32.ofInt (-20) := by decide
theorem pc_m14 : (-14 : Int32) = Int32.ofInt (-14) := by decide
theorem pc_m12 : (-12 : Int32) = Int32.ofInt (-12) := by decide
theorem pc_m11 : (-11 : Int32) = Int32.ofInt (-11) := by decide
theorem pc_m10 : (-10 : Int32) = Int32.ofInt (-10) := by decide
theorem pc_m4 : (-4 : Int32) = Int32.ofInt (-4) := by decide
theorem pc_m3 : (-3 : Int32) = Int32.ofInt (-3) := by decide
theorem pc_m2 : (-2 : Int32) = Int32.ofInt (-2) := by decide
theorem pc_m1 : (-1 : Int32) = Int32.ofInt (-1) := by decide
theorem pc_0 : (0 : Int32) = Int32.ofInt 0 := by decide
theorem pc_1 : (1 : Int32) = Int32.ofInt 1 := by decide
theorem pc_2 : (2 : Int32) = Int32.ofInt 2 := by decide
theorem pc_3 : (3 : Int32) = Int32.ofInt 3 := by decide
theorem pc_4 : (4 : Int32) = Int32.ofInt 4 := by decide
theorem pc_5 : (5 : Int32) = Int32.ofInt 5 := by decide
theorem pc_6 : (6 : Int32) = Int32.ofInt 6 := by decide
theorem pc_7 : (7 : Int32) = Int32.ofInt 7 := by decide
theorem pc_8 : (8 : Int32) = Int32.ofInt 8 := by decide
theorem pc_9 : (9 : Int32) = Int32.ofInt 9 := by decide
theorem pc_10 : (10 : Int32) = Int32.ofInt 10 := by decide
theorem pc_13 : (13 : Int32) = Int32.ofInt 13 := by decide
theorem pc_16 : (16 : Int32) = Int32.ofInt 16 := by decide
theorem pc_18 : (18 : Int32) = Int32.ofInt 18 := by decide
theorem pc_20 : (20 : Int32) = Int32.ofInt 20 := by decide
theorem pc_24 : (24 : Int32) = Int32.ofInt 24 := by decide
theorem pc_25 : (25 : Int32) = Int32.ofInt 25 := by decide
theorem pc_26 : (26 : Int32) = Int32.ofInt 26 := by decide
theorem pc_27 : (27 : Int32) = Int32.ofInt 27 := by decide
theorem pc_28 : (28 : Int32) = Int32.ofInt 28 := by decide
theorem pc_31 : (31 : Int32) = Int32.ofInt 31 := by decide
theorem pc_32 : (32 : Int32) = Int32.ofInt 32 := by decide
theorem pc_33 : (33 : Int32) = Int32.ofInt 33 := by decide
theorem pc_39 : (39 : Int32) = Int32.ofInt 39 := by decide
theorem pc_40 : (40 : Int32) = Int32.ofInt 40 := by decide
theorem pc_48 : (48 : Int32) = Int32.ofInt 48 := by decide
theorem pc_56 : (56 : Int32) = Int32.ofInt 56 := by decide
theorem pc_57 : (57 : Int32) = Int32.ofInt 57 := by decide
theorem pc_59 : (59 : Int32) = Int32.ofInt 59 := by decide
theorem pc_60 : (60 : Int32) = Int32.ofInt 60 := by decide
theorem pc_63 : (63 : Int32) = Int32.ofInt 63 := by decide
theorem pc_64 : (64 : Int32) = Int32.ofInt 64 := by decide
theorem pc_97 : (97 : Int32) = Int32.ofInt 97 := by decide
theorem pc_99 : (99 : Int32) = Int32.ofInt 99 := by decide
theorem pc_100 : (100 : Int32) = Int32.ofInt 100 := by decide
theorem pc_102 : (102 : Int32) = Int32.ofInt 102 := by decide
theorem pc_103 : (103 : Int32) = Int32.ofInt 103 := by decide
theorem pc_105 : (105 : Int32) = Int32.ofInt 105 := by decide
theorem pc_108 : (108 : Int32) = Int32.ofInt 108 := by decide
theorem pc_109 : (109 : Int32) = Int32.ofInt 109 := by decide
theorem pc_110 : (110 : Int32) = Int32.ofInt 110 := by decide
theorem pc_111 : (111 : Int32) = Int32.ofInt 111 := by decide
theorem pc_112 : (112 : Int32) = Int32.ofInt 112 := by decide
theorem pc_114 : (114 : Int32) = Int32.ofInt 114 := by decide
theorem pc_115 : (115 : Int32) = Int32.ofInt 115 := by decide
theorem pc_116 : (116 : Int32) = Int32.ofInt 116 := by decide
theorem pc_117 : (117 : Int32) = Int32.ofInt 117 := by decide
theorem pc_119 : (119 : Int32) = Int32.ofInt 119 := by decide
theorem pc_122 : (122 : Int32) = Int32.ofInt 122 := by decide
theorem pc_320 : (320 : Int32) = Int32.ofInt 320 := by decide
theorem pc_676 : (676 : Int32) = Int32.ofInt 676 := by decide
theorem pc_729 : (729 : Int32) = Int32.ofInt 729 := by decide
theorem pc_999 : (999 : Int32) = Int32.ofInt 999 := by decide
theorem pc_17575 : (17575 : Int32) = Int32.ofInt 17575 := by decide
theorem pc_252645135 : (252645135 : Int32) = Int32.ofInt 252645135 := by decide
theorem pc_858993459 : (858993459 : Int32) = Int32.ofInt 858993459 := by decide
theorem pc_1431655765 : (1431655765 : Int32) = Int32.ofInt 1431655765 := by decide
theorem pcl_m1 : (-1 : Int64) = Int64.ofInt (-1) := by decide
theorem pcl_0 : (0 : Int64) = Int64.ofInt 0 := by decide
theorem pcl_1 : (1 : Int64) = Int64.ofInt 1 := by decide
theorem pcl_2 : (2 : Int64) = Int64.ofInt 2 := by decide
theorem pcl_3 : (3 : Int64) = Int64.ofInt 3 := by decide
theorem pcl_9 : (9 : Int64) = Int64.ofInt 9 := by decide
theorem pcl_10 : (10 : Int64) = Int64.ofInt 10 := by decide
theorem pcl_12 : (12 : Int64) = Int64.ofInt 12 := by decide
theorem pcl_20 : (20 : Int64) = Int64.ofInt 20 := by decide
theorem pcl_48 : (48 : Int64) = Int64.ofInt 48 := by decide
theorem pcl_57 : (57 : Int64) = Int64.ofInt 57 := by decide
theorem pcl_97 : (97 : Int64) = Int64.ofInt 97 := by decide
theorem pcl_99 : (99 : Int64) = Int64.ofInt 99 := by decide
theorem pcl_122 : (122 : Int64) = Int64.ofInt 122 := by decide
theorem pcl_255 : (255 : Int64) = Int64.ofInt 255 := by decide
theorem pcl_17575 : (17575 : Int64) = Int64.ofInt 17575 := by decide
theorem pR_m20 : inR (-20) := ⟨by decide, by decide⟩
theorem pR_m14 : inR (-14) := ⟨by decide, by decide⟩
theorem pR_m12 : inR (-12) := ⟨by decide, by decide⟩
theorem pR_m11 : inR (-11) := ⟨by decide, by decide⟩
theorem pR_m10 : inR (-10) := ⟨by decide, by decide⟩
theorem pR_m4 : inR (-4) := ⟨by decide, by decide⟩
theorem pR_m3 : inR (-3) := ⟨by decide, by decide⟩
theorem pR_m2 : inR (-2) := ⟨by decide, by decide⟩
theorem pR_m1 : inR (-1) := ⟨by decide, by decide⟩
theorem pR_0 : inR 0 := ⟨by decide, by decide⟩
theorem pR_1 : inR 1 := ⟨by decide, by decide⟩
theorem pR_2 : inR 2 := ⟨by decide, by decide⟩
theorem pR_3 : inR 3 := ⟨by decide, by decide⟩
theorem pR_4 : inR 4 := ⟨by decide, by decide⟩
theorem pR_5 : inR 5 := ⟨by decide, by decide⟩
theorem pR_6 : inR 6 := ⟨by decide, by decide⟩
theorem pR_7 : inR 7 := ⟨by decide, by decide⟩
theorem pR_8 : inR 8 := ⟨by decide, by decide⟩
theorem pR_9 : inR 9 := ⟨by decide, by decide⟩
theorem pR_10 : inR 10 := ⟨by decide, by decide⟩
theorem pR_13 : inR 13 := ⟨by decide, by decide⟩
theorem pR_16 : inR 16 := ⟨by decide, by decide⟩
theorem pR_18 : inR 18 := ⟨by decide, by decide⟩
theorem pR_20 : inR 20 := ⟨by decide, by decide⟩
theorem pR_24 : inR 24 := ⟨by decide, by decide⟩
theorem pR_25 : inR 25 := ⟨by decide, by decide⟩
theorem pR_26 : inR 26 := ⟨by decide, by decide⟩
theorem pR_27 : inR 27 := ⟨by decide, by decide⟩
theorem pR_28 : inR 28 := ⟨by decide, by decide⟩
theorem pR_31 : inR 31 := ⟨by decide, by decide⟩
theorem pR_32 : inR 32 := ⟨by decide, by decide⟩
theorem pR_33 : inR 33 := ⟨by decide, by decide⟩
theorem pR_39 : inR 39 := ⟨by decide, by decide⟩
theorem pR_40 : inR 40 := ⟨by decide, by decide⟩
theorem pR_48 : inR 48 := ⟨by decide, by decide⟩
theorem pR_56 : inR 56 := ⟨by decide, by decide⟩
theorem pR_57 : inR 57 := ⟨by decide, by decide⟩
theorem pR_59 : inR 59 := ⟨by decide, by decide⟩
theorem pR_60 : inR 60 := ⟨by decide, by decide⟩
theorem pR_63 : inR 63 := ⟨by decide, by decide⟩
theorem pR_64 : inR 64 := ⟨by decide, by decide⟩
theorem pR_97 : inR 97 := ⟨by decide, by decide⟩
theorem pR_99 : inR 99 := ⟨by decide, by decide⟩
theorem pR_100 : inR 100 := ⟨by decide, by decide⟩
theorem pR_102 : inR 102 := ⟨by decide, by decide⟩
theorem pR_103 : inR 103 := ⟨by decide, by decide⟩
theorem pR_105 : inR 105 := ⟨by decide, by decide⟩
theorem pR_108 : inR 108 := ⟨by decide, by decide⟩
theorem pR_109 : inR 109 := ⟨by decide, by decide⟩
theorem pR_110 : inR 110 := ⟨by decide, by decide⟩
theorem pR_111 : inR 111 := ⟨by decide, by decide⟩
theorem pR_112 : inR 112 := ⟨by decide, by decide⟩
theorem pR_114 : inR 114 := ⟨by decide, by decide⟩
theorem pR_115 : inR 115 := ⟨by decide, by decide⟩
theorem pR_116 : inR 116 := ⟨by decide, by decide⟩
theorem pR_117 : inR 117 := ⟨by decide, by decide⟩
theorem pR_119 : inR 119 := ⟨by decide, by decide⟩
theorem pR_122 : inR 122 := ⟨by decide, by decide⟩
theorem pR_320 : inR 320 := ⟨by decide, by decide⟩
theorem pR_676 : inR 676 := ⟨by decide, by decide⟩
theorem pR_729 : inR 729 := ⟨by decide, by decide⟩
theorem pR_999 : inR 999 := ⟨by decide, by decide⟩
theorem pR_17575 : inR 17575 := ⟨by decide, by decide⟩
theorem pR_252645135 : inR 252645135 := ⟨by decide, by decide⟩
theorem pR_858993459 : inR 858993459 := ⟨by decide, by decide⟩
theorem pR_1431655765 : inR 1431655765 := ⟨by decide, by decide⟩
theorem pLL_m1 : inL (-1) := ⟨by decide, by decide⟩
theorem pLL_0 : inL 0 := ⟨by decide, by decide⟩
theorem pLL_1 : inL 1 := ⟨by decide, by decide⟩
theorem pLL_2 : inL 2 := ⟨by decide, by decide⟩
theorem pLL_3 : inL 3 := ⟨by decide, by decide⟩
theorem pLL_9 : inL 9 := ⟨by decide, by decide⟩
theorem pLL_10 : inL 10 := ⟨by decide, by decide⟩
theorem pLL_12 : inL 12 := ⟨by decide, by decide⟩
theorem pLL_20 : inL 20 := ⟨by decide, by decide⟩
theorem pLL_48 : inL 48 := ⟨by decide, by decide⟩
theorem pLL_57 : inL 57 := ⟨by decide, by decide⟩
theorem pLL_97 : inL 97 := ⟨by decide, by decide⟩
theorem pLL_99 : inL 99 := ⟨by decide, by decide⟩
theorem pLL_122 : inL 122 := ⟨by decide, by decide⟩
theorem pLL_255 : inL 255 := ⟨by decide, by decide⟩
theorem pLL_17575 : inL 17575 := ⟨by decide, by decide⟩
