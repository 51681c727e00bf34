/-! ===== the start: what is given, as rows ===== -/
theorem yl1 {w : Cond} (h : w ∈ tables_1_1) : w ∈ lw_tbl := List.mem_append_right _ (List.mem_append_left _ h)
theorem yl2 {w : Cond} (h : w ∈ tables_1_2) : w ∈ lw_tbl := List.mem_append_right _ (List.mem_append_right _ (List.mem_append_left _ h))
theorem yl3 {w : Cond} (h : w ∈ tables_1_3) : w ∈ lw_tbl := List.mem_append_right _ (List.mem_append_right _ (List.mem_append_right _ (List.mem_append_left _ h)))
theorem yl4 {w : Cond} (h : w ∈ tables_1_4) : w ∈ lw_tbl := List.mem_append_right _ (List.mem_append_right _ (List.mem_append_right _ (List.mem_append_right _ (List.mem_append_left _ h))))
theorem yl5 {w : Cond} (h : w ∈ tables_1_5) : w ∈ lw_tbl := List.mem_append_right _ (List.mem_append_right _ (List.mem_append_right _ (List.mem_append_right _ (List.mem_append_right _ (List.mem_append_left _ h)))))
theorem yl6 {w : Cond} (h : w ∈ tables_1_6) : w ∈ lw_tbl := List.mem_append_right _ (List.mem_append_right _ (List.mem_append_right _ (List.mem_append_right _ (List.mem_append_right _ (List.mem_append_right _ (List.mem_append_left _ h))))))
theorem yl7 {w : Cond} (h : w ∈ tables_1_7) : w ∈ lw_tbl := List.mem_append_right _ (List.mem_append_right _ (List.mem_append_right _ (List.mem_append_right _ (List.mem_append_right _ (List.mem_append_right _ (List.mem_append_right _ (List.mem_append_left _ h)))))))
theorem yl8 {w : Cond} (h : w ∈ tables_1_8) : w ∈ lw_tbl := List.mem_append_right _ (List.mem_append_right _ (List.mem_append_right _ (List.mem_append_right _ (List.mem_append_right _ (List.mem_append_right _ (List.mem_append_right _ (List.mem_append_right _ h)))))))
theorem yt_arr_int : Cond.arrayClass .int ∈ lw_tbl := yl1 (List.mem_of_getElem? (i := 80) rfl)
theorem yt_arr_char : Cond.arrayClass .char ∈ lw_tbl := yl1 (List.mem_of_getElem? (i := 81) rfl)
theorem yt_arr_long : Cond.arrayClass .long ∈ lw_tbl := yl8 (List.mem_of_getElem? (i := 85) rfl)
theorem yt_arr_double : Cond.arrayClass .double ∈ lw_tbl := yl8 (List.mem_of_getElem? (i := 86) rfl)
theorem yt_arr_byte : Cond.arrayClass .byte ∈ lw_tbl := yl1 (List.mem_of_getElem? (i := 208) rfl)
theorem yt_ov_X4 : Cond.arrayOver (.object RX4) ∈ lw_tbl := yl1 (List.mem_of_getElem? (i := 49) rfl)
theorem yt_ov_X6 : Cond.arrayOver (.object RX6) ∈ lw_tbl := yl1 (List.mem_of_getElem? (i := 106) rfl)
theorem yt_ov_X1 : Cond.arrayOver (.object RX1) ∈ lw_tbl := yl1 (List.mem_of_getElem? (i := 126) rfl)
theorem yt_ls_kinds : Cond.laysStatic "PenNursery" "KINDS" "[LPenNursery$Kind;" ∈ lw_tbl := yl6 (List.mem_of_getElem? (i := 13) rfl)
theorem yt_ls_sw : Cond.laysStatic "PenNursery$1" "$SwitchMap$PenNursery$Kind" "[I" ∈ lw_tbl := yl6 (List.mem_of_getElem? (i := 74) rfl)
theorem yt_ls_plant : Cond.laysStatic "PenNursery$Kind" "PLANT" "LPenNursery$Kind;" ∈ lw_tbl := yl1 (List.mem_of_getElem? (i := 133) rfl)
theorem yt_ls_compact : Cond.laysStatic "java/lang/String" "COMPACT_STRINGS" "Z" ∈ lw_tbl := yl1 (List.mem_of_getElem? (i := 186) rfl)
theorem yt_ls_sioobe : Cond.laysStatic "jdk/internal/util/Preconditions" "SIOOBE_FORMATTER" "Ljava/util/function/BiFunction;" ∈ lw_tbl := yl2 (List.mem_of_getElem? (i := 184) rfl)
theorem yt_ls_ones : Cond.laysStatic "java/lang/Integer" "DigitOnes" "[B" ∈ lw_tbl := yl3 (List.mem_of_getElem? (i := 14) rfl)
theorem yt_ls_tens : Cond.laysStatic "java/lang/Integer" "DigitTens" "[B" ∈ lw_tbl := yl3 (List.mem_of_getElem? (i := 16) rfl)
theorem yt_ls_unas : Cond.laysStatic "java/lang/Throwable" "UNASSIGNED_STACK" "[Ljava/lang/StackTraceElement;" ∈ lw_tbl := yl3 (List.mem_of_getElem? (i := 88) rfl)
theorem yt_ls_supp : Cond.laysStatic "java/lang/Throwable" "SUPPRESSED_SENTINEL" "Ljava/util/List;" ∈ lw_tbl := yl3 (List.mem_of_getElem? (i := 90) rfl)
theorem yt_in_nur : Cond.initialized "PenNursery" ∈ lw_tbl := yl1 (List.mem_of_getElem? (i := 1) rfl)
theorem yt_in_one : Cond.initialized "PenNursery$1" ∈ lw_tbl := yl1 (List.mem_of_getElem? (i := 33) rfl)
theorem yt_in_kind : Cond.initialized "PenNursery$Kind" ∈ lw_tbl := yl1 (List.mem_of_getElem? (i := 8) rfl)
theorem yt_in_str : Cond.initialized "java/lang/String" ∈ lw_tbl := yl1 (List.mem_of_getElem? (i := 11) rfl)
theorem yt_in_prec : Cond.initialized "jdk/internal/util/Preconditions" ∈ lw_tbl := yl1 (List.mem_of_getElem? (i := 29) rfl)
theorem yt_in_int : Cond.initialized "java/lang/Integer" ∈ lw_tbl := yl1 (List.mem_of_getElem? (i := 32) rfl)
theorem yt_in_thr : Cond.initialized "java/lang/Throwable" ∈ lw_tbl := yl1 (List.mem_of_getElem? (i := 14) rfl)
theorem yt_fln : Cond.fieldLinkNest RX5 40 "PenNursery" "KINDS" "[LPenNursery$Kind;" "PenNursery" ∈ lw_tbl := yl6 (List.mem_of_getElem? (i := 12) rfl)
/-- the texts: class, index, text, letters -/
def sTab : List (Nat × Nat × String × List Nat) := [(3, 58, "plant DF@N", [112, 108, 97, 110, 116, 32, 68, 70, 64, 78]), (3, 64, "pick D", [112, 105, 99, 107, 32, 68]), (3, 67, "sharpen N-N", [115, 104, 97, 114, 112, 101, 110, 32, 78, 45, 78]), (3, 70, "blunt N+N", [98, 108, 117, 110, 116, 32, 78, 43, 78]), (3, 73, "uproot N", [117, 112, 114, 111, 111, 116, 32, 78]), (3, 76, "move N>D", [109, 111, 118, 101, 32, 78, 62, 68]), (3, 79, "merge D>D", [109, 101, 114, 103, 101, 32, 68, 62, 68]), (3, 82, "order D", [111, 114, 100, 101, 114, 32, 68]), (3, 85, "recall F", [114, 101, 99, 97, 108, 108, 32, 70]), (3, 88, "ink F+N", [105, 110, 107, 32, 70, 43, 78]), (8, 221, "plant ", [112, 108, 97, 110, 116, 32]), (8, 223, "ink ", [105, 110, 107, 32]), (8, 235, "@", [64]), (8, 237, "pick ", [112, 105, 99, 107, 32]), (8, 239, "sharpen ", [115, 104, 97, 114, 112, 101, 110, 32]), (8, 241, "-", [45]), (8, 243, "blunt ", [98, 108, 117, 110, 116, 32]), (8, 245, "+", [43]), (8, 247, "uproot ", [117, 112, 114, 111, 111, 116, 32]), (8, 249, "move ", [109, 111, 118, 101, 32]), (8, 251, ">", [62]), (8, 253, "merge ", [109, 101, 114, 103, 101, 32]), (8, 255, "order ", [111, 114, 100, 101, 114, 32]), (8, 257, "recall ", [114, 101, 99, 97, 108, 108, 32])]
def sRow (j : Nat) : Nat × Nat × String × List Nat := sTab.getD j (0, 0, "", [])
def sTm (j : Nat) : Term := Term.string (RN (sRow j).1) (sRow j).2.1
def sTx (j : Nat) : List Nat := (sRow j).2.2.2
def arW (t : Term) (ty : FieldType) (n : Nat) (f : Nat → Int32) : List Cond := Cond.arrayOf t ty :: Cond.eq (.length t) (.int (Int32.ofNat n)) :: (List.range n).map (fun j => Cond.eq (.elem t (.int (Int32.ofNat j))) (.int (f j)))
def stW (t : Term) (l : List Nat) : List Cond := Cond.exactly t "java/lang/String" :: Cond.eq (.field t "java/lang/String" "coder" "B") (.int (nI 0)) :: arW (.field t "java/lang/String" "value" "[B") .byte l.length (fun j => nI (chA l j))
theorem sub_of {L B : List Cond} (p n : Nat) (h : (L.drop p).take n = B) : ∀ w ∈ B, w ∈ L := fun w hw => List.mem_of_mem_drop (List.mem_of_mem_take (by rw [h]; exact hw))
theorem yr_0 : Cond.stringRef (RN (sRow 0).1) (sRow 0).2.1 (sRow 0).2.2.1 ∈ lw_tbl := yl8 (List.mem_of_getElem? (i := 123) rfl)
theorem ys_0 : ∀ w ∈ stW (sTm 0) (sTx 0), w ∈ flatC narrow_1 := sub_of 1080 14 (by decide +kernel)
theorem yr_1 : Cond.stringRef (RN (sRow 1).1) (sRow 1).2.1 (sRow 1).2.2.1 ∈ lw_tbl := yl8 (List.mem_of_getElem? (i := 133) rfl)
theorem ys_1 : ∀ w ∈ stW (sTm 1) (sTx 1), w ∈ flatC narrow_1 := sub_of 1094 10 (by decide +kernel)
theorem yr_2 : Cond.stringRef (RN (sRow 2).1) (sRow 2).2.1 (sRow 2).2.2.1 ∈ lw_tbl := yl8 (List.mem_of_getElem? (i := 134) rfl)
theorem ys_2 : ∀ w ∈ stW (sTm 2) (sTx 2), w ∈ flatC narrow_1 := sub_of 1104 15 (by decide +kernel)
theorem yr_3 : Cond.stringRef (RN (sRow 3).1) (sRow 3).2.1 (sRow 3).2.2.1 ∈ lw_tbl := yl8 (List.mem_of_getElem? (i := 135) rfl)
theorem ys_3 : ∀ w ∈ stW (sTm 3) (sTx 3), w ∈ flatC narrow_1 := sub_of 1119 13 (by decide +kernel)
theorem yr_4 : Cond.stringRef (RN (sRow 4).1) (sRow 4).2.1 (sRow 4).2.2.1 ∈ lw_tbl := yl8 (List.mem_of_getElem? (i := 136) rfl)
theorem ys_4 : ∀ w ∈ stW (sTm 4) (sTx 4), w ∈ flatC narrow_1 := sub_of 1132 12 (by decide +kernel)
theorem yr_5 : Cond.stringRef (RN (sRow 5).1) (sRow 5).2.1 (sRow 5).2.2.1 ∈ lw_tbl := yl8 (List.mem_of_getElem? (i := 137) rfl)
theorem ys_5 : ∀ w ∈ stW (sTm 5) (sTx 5), w ∈ flatC narrow_1 := sub_of 1144 12 (by decide +kernel)
theorem yr_6 : Cond.stringRef (RN (sRow 6).1) (sRow 6).2.1 (sRow 6).2.2.1 ∈ lw_tbl := yl8 (List.mem_of_getElem? (i := 138) rfl)
theorem ys_6 : ∀ w ∈ stW (sTm 6) (sTx 6), w ∈ flatC narrow_1 := sub_of 1156 13 (by decide +kernel)
theorem yr_7 : Cond.stringRef (RN (sRow 7).1) (sRow 7).2.1 (sRow 7).2.2.1 ∈ lw_tbl := yl8 (List.mem_of_getElem? (i := 139) rfl)
theorem ys_7 : ∀ w ∈ stW (sTm 7) (sTx 7), w ∈ flatC narrow_1 := sub_of 1169 11 (by decide +kernel)
theorem yr_8 : Cond.stringRef (RN (sRow 8).1) (sRow 8).2.1 (sRow 8).2.2.1 ∈ lw_tbl := yl8 (List.mem_of_getElem? (i := 140) rfl)
theorem ys_8 : ∀ w ∈ stW (sTm 8) (sTx 8), w ∈ flatC narrow_1 := sub_of 1180 12 (by decide +kernel)
theorem yr_9 : Cond.stringRef (RN (sRow 9).1) (sRow 9).2.1 (sRow 9).2.2.1 ∈ lw_tbl := yl8 (List.mem_of_getElem? (i := 141) rfl)
theorem ys_9 : ∀ w ∈ stW (sTm 9) (sTx 9), w ∈ flatC narrow_1 := sub_of 1192 11 (by decide +kernel)
theorem yr_10 : Cond.stringRef (RN (sRow 10).1) (sRow 10).2.1 (sRow 10).2.2.1 ∈ lw_tbl := yl8 (List.mem_of_getElem? (i := 29) rfl)
theorem ys_10 : ∀ w ∈ stW (sTm 10) (sTx 10), w ∈ flatC narrow_1 := sub_of 960 10 (by decide +kernel)
theorem yr_11 : Cond.stringRef (RN (sRow 11).1) (sRow 11).2.1 (sRow 11).2.2.1 ∈ lw_tbl := yl8 (List.mem_of_getElem? (i := 30) rfl)
theorem ys_11 : ∀ w ∈ stW (sTm 11) (sTx 11), w ∈ flatC narrow_1 := sub_of 970 8 (by decide +kernel)
theorem yr_12 : Cond.stringRef (RN (sRow 12).1) (sRow 12).2.1 (sRow 12).2.2.1 ∈ lw_tbl := yl8 (List.mem_of_getElem? (i := 49) rfl)
theorem ys_12 : ∀ w ∈ stW (sTm 12) (sTx 12), w ∈ flatC narrow_1 := sub_of 978 5 (by decide +kernel)
theorem yr_13 : Cond.stringRef (RN (sRow 13).1) (sRow 13).2.1 (sRow 13).2.2.1 ∈ lw_tbl := yl8 (List.mem_of_getElem? (i := 50) rfl)
theorem ys_13 : ∀ w ∈ stW (sTm 13) (sTx 13), w ∈ flatC narrow_1 := sub_of 983 9 (by decide +kernel)
theorem yr_14 : Cond.stringRef (RN (sRow 14).1) (sRow 14).2.1 (sRow 14).2.2.1 ∈ lw_tbl := yl8 (List.mem_of_getElem? (i := 51) rfl)
theorem ys_14 : ∀ w ∈ stW (sTm 14) (sTx 14), w ∈ flatC narrow_1 := sub_of 992 12 (by decide +kernel)
theorem yr_15 : Cond.stringRef (RN (sRow 15).1) (sRow 15).2.1 (sRow 15).2.2.1 ∈ lw_tbl := yl8 (List.mem_of_getElem? (i := 52) rfl)
theorem ys_15 : ∀ w ∈ stW (sTm 15) (sTx 15), w ∈ flatC narrow_1 := sub_of 1004 5 (by decide +kernel)
theorem yr_16 : Cond.stringRef (RN (sRow 16).1) (sRow 16).2.1 (sRow 16).2.2.1 ∈ lw_tbl := yl8 (List.mem_of_getElem? (i := 53) rfl)
theorem ys_16 : ∀ w ∈ stW (sTm 16) (sTx 16), w ∈ flatC narrow_1 := sub_of 1009 10 (by decide +kernel)
theorem yr_17 : Cond.stringRef (RN (sRow 17).1) (sRow 17).2.1 (sRow 17).2.2.1 ∈ lw_tbl := yl8 (List.mem_of_getElem? (i := 54) rfl)
theorem ys_17 : ∀ w ∈ stW (sTm 17) (sTx 17), w ∈ flatC narrow_1 := sub_of 1019 5 (by decide +kernel)
theorem yr_18 : Cond.stringRef (RN (sRow 18).1) (sRow 18).2.1 (sRow 18).2.2.1 ∈ lw_tbl := yl8 (List.mem_of_getElem? (i := 55) rfl)
theorem ys_18 : ∀ w ∈ stW (sTm 18) (sTx 18), w ∈ flatC narrow_1 := sub_of 1024 11 (by decide +kernel)
theorem yr_19 : Cond.stringRef (RN (sRow 19).1) (sRow 19).2.1 (sRow 19).2.2.1 ∈ lw_tbl := yl8 (List.mem_of_getElem? (i := 56) rfl)
theorem ys_19 : ∀ w ∈ stW (sTm 19) (sTx 19), w ∈ flatC narrow_1 := sub_of 1035 9 (by decide +kernel)
theorem yr_20 : Cond.stringRef (RN (sRow 20).1) (sRow 20).2.1 (sRow 20).2.2.1 ∈ lw_tbl := yl8 (List.mem_of_getElem? (i := 57) rfl)
theorem ys_20 : ∀ w ∈ stW (sTm 20) (sTx 20), w ∈ flatC narrow_1 := sub_of 1044 5 (by decide +kernel)
theorem yr_21 : Cond.stringRef (RN (sRow 21).1) (sRow 21).2.1 (sRow 21).2.2.1 ∈ lw_tbl := yl8 (List.mem_of_getElem? (i := 58) rfl)
theorem ys_21 : ∀ w ∈ stW (sTm 21) (sTx 21), w ∈ flatC narrow_1 := sub_of 1049 10 (by decide +kernel)
theorem yr_22 : Cond.stringRef (RN (sRow 22).1) (sRow 22).2.1 (sRow 22).2.2.1 ∈ lw_tbl := yl8 (List.mem_of_getElem? (i := 59) rfl)
theorem ys_22 : ∀ w ∈ stW (sTm 22) (sTx 22), w ∈ flatC narrow_1 := sub_of 1059 10 (by decide +kernel)
theorem yr_23 : Cond.stringRef (RN (sRow 23).1) (sRow 23).2.1 (sRow 23).2.2.1 ∈ lw_tbl := yl8 (List.mem_of_getElem? (i := 60) rfl)
theorem ys_23 : ∀ w ∈ stW (sTm 23) (sTx 23), w ∈ flatC narrow_1 := sub_of 1069 11 (by decide +kernel)
theorem y24 {j : Nat} (h : j < 24) : j = 0 ∨ j = 1 ∨ j = 2 ∨ j = 3 ∨ j = 4 ∨ j = 5 ∨ j = 6 ∨ j = 7 ∨ j = 8 ∨ j = 9 ∨ j = 10 ∨ j = 11 ∨ j = 12 ∨ j = 13 ∨ j = 14 ∨ j = 15 ∨ j = 16 ∨ j = 17 ∨ j = 18 ∨ j = 19 ∨ j = 20 ∨ j = 21 ∨ j = 22 ∨ j = 23 := by omega
theorem yr_all (j : Nat) (h : j < 24) : Cond.stringRef (RN (sRow j).1) (sRow j).2.1 (sRow j).2.2.1 ∈ lw_tbl := by
  rcases y24 h with rfl | rfl | rfl | rfl | rfl | rfl | rfl | rfl | rfl | rfl | rfl | rfl | rfl | rfl | rfl | rfl | rfl | rfl | rfl | rfl | rfl | rfl | rfl | rfl
  · exact yr_0
  · exact yr_1
  · exact yr_2
  · exact yr_3
  · exact yr_4
  · exact yr_5
  · exact yr_6
  · exact yr_7
  · exact yr_8
  · exact yr_9
  · exact yr_10
  · exact yr_11
  · exact yr_12
  · exact yr_13
  · exact yr_14
  · exact yr_15
  · exact yr_16
  · exact yr_17
  · exact yr_18
  · exact yr_19
  · exact yr_20
  · exact yr_21
  · exact yr_22
  · exact yr_23
theorem ys_all (j : Nat) (h : j < 24) : ∀ w ∈ stW (sTm j) (sTx j), w ∈ flatC narrow_1 := by
  rcases y24 h with rfl | rfl | rfl | rfl | rfl | rfl | rfl | rfl | rfl | rfl | rfl | rfl | rfl | rfl | rfl | rfl | rfl | rfl | rfl | rfl | rfl | rfl | rfl | rfl
  · exact ys_0
  · exact ys_1
  · exact ys_2
  · exact ys_3
  · exact ys_4
  · exact ys_5
  · exact ys_6
  · exact ys_7
  · exact ys_8
  · exact ys_9
  · exact ys_10
  · exact ys_11
  · exact ys_12
  · exact ys_13
  · exact ys_14
  · exact ys_15
  · exact ys_16
  · exact ys_17
  · exact ys_18
  · exact ys_19
  · exact ys_20
  · exact ys_21
  · exact ys_22
  · exact ys_23
def mTab : List (Nat × String) := [(124, "no such pen"), (129, "no parent"), (150, "no such index"), (152, "no such rank"), (180, "no pens"), (198, "no pen was planted"), (231, "no such character"), (242, "the buffer is full"), (255, "not a program"), (263, "a command failed"), (266, "every text was a program"), (268, "no command failed"), (273, "no change can be undone"), (282, "no state was saved"), (293, "no such nest"), (295, "not a possible value"), (297, "no ink for the feather"), (299, "not possible in this state"), (319, "not a feather")]
theorem ym_124 : Cond.stringRef RX7 124 "no such pen" ∈ lw_tbl := yl4 (List.mem_of_getElem? (i := 71) rfl)
theorem ym_129 : Cond.stringRef RX7 129 "no parent" ∈ lw_tbl := yl5 (List.mem_of_getElem? (i := 36) rfl)
theorem ym_150 : Cond.stringRef RX7 150 "no such index" ∈ lw_tbl := yl5 (List.mem_of_getElem? (i := 78) rfl)
theorem ym_152 : Cond.stringRef RX7 152 "no such rank" ∈ lw_tbl := yl5 (List.mem_of_getElem? (i := 86) rfl)
theorem ym_180 : Cond.stringRef RX7 180 "no pens" ∈ lw_tbl := yl5 (List.mem_of_getElem? (i := 160) rfl)
theorem ym_198 : Cond.stringRef RX7 198 "no pen was planted" ∈ lw_tbl := yl5 (List.mem_of_getElem? (i := 199) rfl)
theorem ym_231 : Cond.stringRef RX7 231 "no such character" ∈ lw_tbl := yl5 (List.mem_of_getElem? (i := 214) rfl)
theorem ym_242 : Cond.stringRef RX7 242 "the buffer is full" ∈ lw_tbl := yl5 (List.mem_of_getElem? (i := 232) rfl)
theorem ym_255 : Cond.stringRef RX7 255 "not a program" ∈ lw_tbl := yl6 (List.mem_of_getElem? (i := 64) rfl)
theorem ym_263 : Cond.stringRef RX7 263 "a command failed" ∈ lw_tbl := yl6 (List.mem_of_getElem? (i := 92) rfl)
theorem ym_266 : Cond.stringRef RX7 266 "every text was a program" ∈ lw_tbl := yl6 (List.mem_of_getElem? (i := 100) rfl)
theorem ym_268 : Cond.stringRef RX7 268 "no command failed" ∈ lw_tbl := yl6 (List.mem_of_getElem? (i := 108) rfl)
theorem ym_273 : Cond.stringRef RX7 273 "no change can be undone" ∈ lw_tbl := yl6 (List.mem_of_getElem? (i := 116) rfl)
theorem ym_282 : Cond.stringRef RX7 282 "no state was saved" ∈ lw_tbl := yl6 (List.mem_of_getElem? (i := 128) rfl)
theorem ym_293 : Cond.stringRef RX7 293 "no such nest" ∈ lw_tbl := yl4 (List.mem_of_getElem? (i := 58) rfl)
theorem ym_295 : Cond.stringRef RX7 295 "not a possible value" ∈ lw_tbl := yl4 (List.mem_of_getElem? (i := 79) rfl)
theorem ym_297 : Cond.stringRef RX7 297 "no ink for the feather" ∈ lw_tbl := yl4 (List.mem_of_getElem? (i := 90) rfl)
theorem ym_299 : Cond.stringRef RX7 299 "not possible in this state" ∈ lw_tbl := yl4 (List.mem_of_getElem? (i := 106) rfl)
theorem ym_319 : Cond.stringRef RX7 319 "not a feather" ∈ lw_tbl := yl5 (List.mem_of_getElem? (i := 137) rfl)
theorem ym_all : ∀ q ∈ mTab, Cond.stringRef RX7 q.1 q.2 ∈ lw_tbl := List.forall_mem_cons.mpr ⟨ym_124, List.forall_mem_cons.mpr ⟨ym_129, List.forall_mem_cons.mpr ⟨ym_150, List.forall_mem_cons.mpr ⟨ym_152, List.forall_mem_cons.mpr ⟨ym_180, List.forall_mem_cons.mpr ⟨ym_198, List.forall_mem_cons.mpr ⟨ym_231, List.forall_mem_cons.mpr ⟨ym_242, List.forall_mem_cons.mpr ⟨ym_255, List.forall_mem_cons.mpr ⟨ym_263, List.forall_mem_cons.mpr ⟨ym_266, List.forall_mem_cons.mpr ⟨ym_268, List.forall_mem_cons.mpr ⟨ym_273, List.forall_mem_cons.mpr ⟨ym_282, List.forall_mem_cons.mpr ⟨ym_293, List.forall_mem_cons.mpr ⟨ym_295, List.forall_mem_cons.mpr ⟨ym_297, List.forall_mem_cons.mpr ⟨ym_299, List.forall_mem_cons.mpr ⟨ym_319, fun _ h => nomatch h⟩⟩⟩⟩⟩⟩⟩⟩⟩⟩⟩⟩⟩⟩⟩⟩⟩⟩⟩
theorem ya_ones : ∀ w ∈ arW (.static "java/lang/Integer" "DigitOnes" "[B") .byte 100 (fun k => nI (48 + k % 10)), w ∈ flatC narrow_1 := sub_of 11 102 (by decide +kernel)
theorem ya_tens : ∀ w ∈ arW (.static "java/lang/Integer" "DigitTens" "[B") .byte 100 (fun k => nI (48 + k / 10)), w ∈ flatC narrow_1 := sub_of 114 102 (by decide +kernel)
theorem ya_sw : ∀ w ∈ arW (.static "PenNursery$1" "$SwitchMap$PenNursery$Kind" "[I") .int 10 (fun i => if i < 9 then nI (i + 1) else nI 0), w ∈ flatC narrow_1 := sub_of 234 12 (by decide +kernel)
def kNm (i : Nat) : String := ["PLANT", "PICK", "SHARPEN", "BLUNT", "UPROOT", "MOVE", "MERGE", "ORDER", "RECALL", "INK"].getD i ""
def kTm (i : Nat) : Term := Term.static "PenNursery$Kind" (kNm i) "LPenNursery$Kind;"
theorem yk_ex_0 : Cond.exactly (kTm 0) "PenNursery$Kind" ∈ flatC narrow_1 := List.mem_of_getElem? (i := 2) (by decide +kernel)
theorem yk_or_0 : Cond.eq (.field (kTm 0) "java/lang/Enum" "ordinal" "I") (.int (nI 0)) ∈ flatC narrow_1 := List.mem_of_getElem? (i := 3) (by decide +kernel)
theorem yk_fo_0 : Cond.eq (.field (kTm 0) "PenNursery$Kind" "form" "Ljava/lang/String;") (sTm 0) ∈ flatC narrow_1 := List.mem_of_getElem? (i := 4) (by decide +kernel)
theorem yk_el_0 : Cond.eq (.elem (.static "PenNursery" "KINDS" "[LPenNursery$Kind;") (.int (Int32.ofNat 0))) (kTm 0) ∈ flatC narrow_1 := List.mem_of_getElem? (i := 223) (by decide +kernel)
theorem yk_ex_1 : Cond.exactly (kTm 1) "PenNursery$Kind" ∈ flatC narrow_1 := List.mem_of_getElem? (i := 246) (by decide +kernel)
theorem yk_or_1 : Cond.eq (.field (kTm 1) "java/lang/Enum" "ordinal" "I") (.int (nI 1)) ∈ flatC narrow_1 := List.mem_of_getElem? (i := 247) (by decide +kernel)
theorem yk_fo_1 : Cond.eq (.field (kTm 1) "PenNursery$Kind" "form" "Ljava/lang/String;") (sTm 1) ∈ flatC narrow_1 := List.mem_of_getElem? (i := 248) (by decide +kernel)
theorem yk_el_1 : Cond.eq (.elem (.static "PenNursery" "KINDS" "[LPenNursery$Kind;") (.int (Int32.ofNat 1))) (kTm 1) ∈ flatC narrow_1 := List.mem_of_getElem? (i := 224) (by decide +kernel)
theorem yk_ex_2 : Cond.exactly (kTm 2) "PenNursery$Kind" ∈ flatC narrow_1 := List.mem_of_getElem? (i := 250) (by decide +kernel)
theorem yk_or_2 : Cond.eq (.field (kTm 2) "java/lang/Enum" "ordinal" "I") (.int (nI 2)) ∈ flatC narrow_1 := List.mem_of_getElem? (i := 251) (by decide +kernel)
theorem yk_fo_2 : Cond.eq (.field (kTm 2) "PenNursery$Kind" "form" "Ljava/lang/String;") (sTm 2) ∈ flatC narrow_1 := List.mem_of_getElem? (i := 252) (by decide +kernel)
theorem yk_el_2 : Cond.eq (.elem (.static "PenNursery" "KINDS" "[LPenNursery$Kind;") (.int (Int32.ofNat 2))) (kTm 2) ∈ flatC narrow_1 := List.mem_of_getElem? (i := 225) (by decide +kernel)
theorem yk_ex_3 : Cond.exactly (kTm 3) "PenNursery$Kind" ∈ flatC narrow_1 := List.mem_of_getElem? (i := 255) (by decide +kernel)
theorem yk_or_3 : Cond.eq (.field (kTm 3) "java/lang/Enum" "ordinal" "I") (.int (nI 3)) ∈ flatC narrow_1 := List.mem_of_getElem? (i := 256) (by decide +kernel)
theorem yk_fo_3 : Cond.eq (.field (kTm 3) "PenNursery$Kind" "form" "Ljava/lang/String;") (sTm 3) ∈ flatC narrow_1 := List.mem_of_getElem? (i := 257) (by decide +kernel)
theorem yk_el_3 : Cond.eq (.elem (.static "PenNursery" "KINDS" "[LPenNursery$Kind;") (.int (Int32.ofNat 3))) (kTm 3) ∈ flatC narrow_1 := List.mem_of_getElem? (i := 226) (by decide +kernel)
theorem yk_ex_4 : Cond.exactly (kTm 4) "PenNursery$Kind" ∈ flatC narrow_1 := List.mem_of_getElem? (i := 261) (by decide +kernel)
theorem yk_or_4 : Cond.eq (.field (kTm 4) "java/lang/Enum" "ordinal" "I") (.int (nI 4)) ∈ flatC narrow_1 := List.mem_of_getElem? (i := 262) (by decide +kernel)
theorem yk_fo_4 : Cond.eq (.field (kTm 4) "PenNursery$Kind" "form" "Ljava/lang/String;") (sTm 4) ∈ flatC narrow_1 := List.mem_of_getElem? (i := 263) (by decide +kernel)
theorem yk_el_4 : Cond.eq (.elem (.static "PenNursery" "KINDS" "[LPenNursery$Kind;") (.int (Int32.ofNat 4))) (kTm 4) ∈ flatC narrow_1 := List.mem_of_getElem? (i := 227) (by decide +kernel)
theorem yk_ex_5 : Cond.exactly (kTm 5) "PenNursery$Kind" ∈ flatC narrow_1 := List.mem_of_getElem? (i := 268) (by decide +kernel)
theorem yk_or_5 : Cond.eq (.field (kTm 5) "java/lang/Enum" "ordinal" "I") (.int (nI 5)) ∈ flatC narrow_1 := List.mem_of_getElem? (i := 269) (by decide +kernel)
theorem yk_fo_5 : Cond.eq (.field (kTm 5) "PenNursery$Kind" "form" "Ljava/lang/String;") (sTm 5) ∈ flatC narrow_1 := List.mem_of_getElem? (i := 270) (by decide +kernel)
theorem yk_el_5 : Cond.eq (.elem (.static "PenNursery" "KINDS" "[LPenNursery$Kind;") (.int (Int32.ofNat 5))) (kTm 5) ∈ flatC narrow_1 := List.mem_of_getElem? (i := 228) (by decide +kernel)
theorem yk_ex_6 : Cond.exactly (kTm 6) "PenNursery$Kind" ∈ flatC narrow_1 := List.mem_of_getElem? (i := 276) (by decide +kernel)
theorem yk_or_6 : Cond.eq (.field (kTm 6) "java/lang/Enum" "ordinal" "I") (.int (nI 6)) ∈ flatC narrow_1 := List.mem_of_getElem? (i := 277) (by decide +kernel)
theorem yk_fo_6 : Cond.eq (.field (kTm 6) "PenNursery$Kind" "form" "Ljava/lang/String;") (sTm 6) ∈ flatC narrow_1 := List.mem_of_getElem? (i := 278) (by decide +kernel)
theorem yk_el_6 : Cond.eq (.elem (.static "PenNursery" "KINDS" "[LPenNursery$Kind;") (.int (Int32.ofNat 6))) (kTm 6) ∈ flatC narrow_1 := List.mem_of_getElem? (i := 229) (by decide +kernel)
theorem yk_ex_7 : Cond.exactly (kTm 7) "PenNursery$Kind" ∈ flatC narrow_1 := List.mem_of_getElem? (i := 285) (by decide +kernel)
theorem yk_or_7 : Cond.eq (.field (kTm 7) "java/lang/Enum" "ordinal" "I") (.int (nI 7)) ∈ flatC narrow_1 := List.mem_of_getElem? (i := 286) (by decide +kernel)
theorem yk_fo_7 : Cond.eq (.field (kTm 7) "PenNursery$Kind" "form" "Ljava/lang/String;") (sTm 7) ∈ flatC narrow_1 := List.mem_of_getElem? (i := 287) (by decide +kernel)
theorem yk_el_7 : Cond.eq (.elem (.static "PenNursery" "KINDS" "[LPenNursery$Kind;") (.int (Int32.ofNat 7))) (kTm 7) ∈ flatC narrow_1 := List.mem_of_getElem? (i := 230) (by decide +kernel)
theorem yk_ex_8 : Cond.exactly (kTm 8) "PenNursery$Kind" ∈ flatC narrow_1 := List.mem_of_getElem? (i := 295) (by decide +kernel)
theorem yk_or_8 : Cond.eq (.field (kTm 8) "java/lang/Enum" "ordinal" "I") (.int (nI 8)) ∈ flatC narrow_1 := List.mem_of_getElem? (i := 296) (by decide +kernel)
theorem yk_fo_8 : Cond.eq (.field (kTm 8) "PenNursery$Kind" "form" "Ljava/lang/String;") (sTm 8) ∈ flatC narrow_1 := List.mem_of_getElem? (i := 297) (by decide +kernel)
theorem yk_el_8 : Cond.eq (.elem (.static "PenNursery" "KINDS" "[LPenNursery$Kind;") (.int (Int32.ofNat 8))) (kTm 8) ∈ flatC narrow_1 := List.mem_of_getElem? (i := 231) (by decide +kernel)
theorem yk_ex_9 : Cond.exactly (kTm 9) "PenNursery$Kind" ∈ flatC narrow_1 := List.mem_of_getElem? (i := 306) (by decide +kernel)
theorem yk_or_9 : Cond.eq (.field (kTm 9) "java/lang/Enum" "ordinal" "I") (.int (nI 9)) ∈ flatC narrow_1 := List.mem_of_getElem? (i := 307) (by decide +kernel)
theorem yk_fo_9 : Cond.eq (.field (kTm 9) "PenNursery$Kind" "form" "Ljava/lang/String;") (sTm 9) ∈ flatC narrow_1 := List.mem_of_getElem? (i := 308) (by decide +kernel)
theorem yk_el_9 : Cond.eq (.elem (.static "PenNursery" "KINDS" "[LPenNursery$Kind;") (.int (Int32.ofNat 9))) (kTm 9) ∈ flatC narrow_1 := List.mem_of_getElem? (i := 232) (by decide +kernel)
theorem y10 {j : Nat} (h : j < 10) : j = 0 ∨ j = 1 ∨ j = 2 ∨ j = 3 ∨ j = 4 ∨ j = 5 ∨ j = 6 ∨ j = 7 ∨ j = 8 ∨ j = 9 := by omega
theorem yk_all (i : Nat) (h : i < 10) : Cond.exactly (kTm i) "PenNursery$Kind" ∈ flatC narrow_1 ∧ Cond.eq (.field (kTm i) "java/lang/Enum" "ordinal" "I") (.int (nI i)) ∈ flatC narrow_1 ∧ Cond.eq (.field (kTm i) "PenNursery$Kind" "form" "Ljava/lang/String;") (sTm i) ∈ flatC narrow_1 ∧ Cond.eq (.elem (.static "PenNursery" "KINDS" "[LPenNursery$Kind;") (.int (Int32.ofNat i))) (kTm i) ∈ flatC narrow_1 := by
  rcases y10 h with rfl | rfl | rfl | rfl | rfl | rfl | rfl | rfl | rfl | rfl
  · exact ⟨yk_ex_0, yk_or_0, yk_fo_0, yk_el_0⟩
  · exact ⟨yk_ex_1, yk_or_1, yk_fo_1, yk_el_1⟩
  · exact ⟨yk_ex_2, yk_or_2, yk_fo_2, yk_el_2⟩
  · exact ⟨yk_ex_3, yk_or_3, yk_fo_3, yk_el_3⟩
  · exact ⟨yk_ex_4, yk_or_4, yk_fo_4, yk_el_4⟩
  · exact ⟨yk_ex_5, yk_or_5, yk_fo_5, yk_el_5⟩
  · exact ⟨yk_ex_6, yk_or_6, yk_fo_6, yk_el_6⟩
  · exact ⟨yk_ex_7, yk_or_7, yk_fo_7, yk_el_7⟩
  · exact ⟨yk_ex_8, yk_or_8, yk_fo_8, yk_el_8⟩
  · exact ⟨yk_ex_9, yk_or_9, yk_fo_9, yk_el_9⟩
theorem yk_ar : Cond.arrayOf (.static "PenNursery" "KINDS" "[LPenNursery$Kind;") (.object "PenNursery$Kind") ∈ flatC narrow_1 := List.mem_of_getElem? (i := 220) (by decide +kernel)
theorem yk_le : Cond.eq (.length (.static "PenNursery" "KINDS" "[LPenNursery$Kind;")) (.int (Int32.ofNat 10)) ∈ flatC narrow_1 := List.mem_of_getElem? (i := 221) (by decide +kernel)
theorem yn_sw : Cond.not (.eq (.arg 0) (.static "PenNursery$1" "$SwitchMap$PenNursery$Kind" "[I")) ∈ flatC narrow_1 := List.mem_of_getElem? (i := 1203) (by decide +kernel)
theorem yn_cs : Cond.eq (.static "java/lang/String" "COMPACT_STRINGS" "Z") (.int (nI 1)) ∈ flatC narrow_1 := List.mem_of_getElem? (i := 5) (by decide +kernel)
theorem yn_sioobe : Cond.isRef (.static "jdk/internal/util/Preconditions" "SIOOBE_FORMATTER" "Ljava/util/function/BiFunction;") ∈ flatC narrow_1 := List.mem_of_getElem? (i := 6) (by decide +kernel)
theorem yn_unas : Cond.isRef (.static "java/lang/Throwable" "UNASSIGNED_STACK" "[Ljava/lang/StackTraceElement;") ∈ flatC narrow_1 := List.mem_of_getElem? (i := 216) (by decide +kernel)
theorem yn_supp : Cond.isRef (.static "java/lang/Throwable" "SUPPRESSED_SENTINEL" "Ljava/util/List;") ∈ flatC narrow_1 := List.mem_of_getElem? (i := 217) (by decide +kernel)
theorem yw_nest : ∀ q ∈ NWL, Cond.methodLinkNest q.1 q.2.1 q.2.2.1 q.2.2.2 ∈ lw_tbl := by decide +kernel
theorem yw_cast : ∀ q ∈ NCL, if q.1 = q.2 then Cond.castable q.1 q.2 ∈ lw_tbl else Cond.not (.castable q.1 q.2) ∈ flatC narrow_1 := by decide +kernel
def OwP (w : Cond) : Prop := vx_no w = true → w ∈ lw_tbl
theorem ow_thr : ∀ w ∈ Bundle.throwableAtoms, OwP w := List.forall_mem_cons.mpr ⟨fun _ => yl1 (List.mem_of_getElem? (i := 14) rfl), List.forall_mem_cons.mpr ⟨fun _ => yl3 (List.mem_of_getElem? (i := 83) rfl), List.forall_mem_cons.mpr ⟨fun _ => yl3 (List.mem_of_getElem? (i := 92) rfl), List.forall_mem_cons.mpr ⟨fun _ => yl3 (List.mem_of_getElem? (i := 101) rfl), List.forall_mem_cons.mpr ⟨fun _ => yl3 (List.mem_of_getElem? (i := 104) rfl), List.forall_mem_cons.mpr ⟨fun _ => yl3 (List.mem_of_getElem? (i := 106) rfl), List.forall_mem_cons.mpr ⟨fun _ => yl3 (List.mem_of_getElem? (i := 84) rfl), List.forall_mem_cons.mpr ⟨fun _ => yl3 (List.mem_of_getElem? (i := 85) rfl), List.forall_mem_cons.mpr ⟨fun _ => yl1 (List.mem_of_getElem? (i := 40) rfl), List.forall_mem_cons.mpr ⟨fun _ => yl1 (List.mem_of_getElem? (i := 41) rfl), List.forall_mem_cons.mpr ⟨fun _ => yl3 (List.mem_of_getElem? (i := 86) rfl), List.forall_mem_cons.mpr ⟨fun _ => yl3 (List.mem_of_getElem? (i := 91) rfl), List.forall_mem_cons.mpr ⟨fun _ => yl3 (List.mem_of_getElem? (i := 102) rfl), List.forall_mem_cons.mpr ⟨fun _ => yl3 (List.mem_of_getElem? (i := 127) rfl), List.forall_mem_cons.mpr ⟨fun _ => yl3 (List.mem_of_getElem? (i := 73) rfl), List.forall_mem_cons.mpr ⟨fun _ => yl3 (List.mem_of_getElem? (i := 128) rfl), List.forall_mem_cons.mpr ⟨fun _ => yl3 (List.mem_of_getElem? (i := 75) rfl), List.forall_mem_cons.mpr ⟨fun _ => yl3 (List.mem_of_getElem? (i := 129) rfl), List.forall_mem_cons.mpr ⟨fun _ => yl3 (List.mem_of_getElem? (i := 77) rfl), List.forall_mem_cons.mpr ⟨fun _ => yl3 (List.mem_of_getElem? (i := 87) rfl), List.forall_mem_cons.mpr ⟨fun _ => yl3 (List.mem_of_getElem? (i := 88) rfl), List.forall_mem_cons.mpr ⟨fun _ => yl3 (List.mem_of_getElem? (i := 89) rfl), List.forall_mem_cons.mpr ⟨fun _ => yl3 (List.mem_of_getElem? (i := 90) rfl), List.forall_mem_cons.mpr ⟨fun _ => yl3 (List.mem_of_getElem? (i := 79) rfl), fun _ h => nomatch h⟩⟩⟩⟩⟩⟩⟩⟩⟩⟩⟩⟩⟩⟩⟩⟩⟩⟩⟩⟩⟩⟩⟩⟩
theorem ow_thS : ∀ w ∈ Bundle.throwableSAtoms, OwP w := List.forall_mem_cons.mpr ⟨fun _ => yl3 (List.mem_of_getElem? (i := 123) rfl), List.forall_mem_cons.mpr ⟨fun _ => yl3 (List.mem_of_getElem? (i := 124) rfl), List.forall_mem_cons.mpr ⟨fun _ => yl3 (List.mem_of_getElem? (i := 126) rfl), List.forall_mem_cons.mpr ⟨fun _ => yl3 (List.mem_of_getElem? (i := 79) rfl), fun _ h => nomatch h⟩⟩⟩⟩
theorem ow_p1 : ∀ w ∈ Bundle.passSAtoms "java/lang/RuntimeException" "java/lang/Exception" 7 Bundle.six, OwP w := List.forall_mem_cons.mpr ⟨fun _ => yl3 (List.mem_of_getElem? (i := 117) rfl), List.forall_mem_cons.mpr ⟨fun _ => yl3 (List.mem_of_getElem? (i := 118) rfl), List.forall_mem_cons.mpr ⟨fun _ => yl3 (List.mem_of_getElem? (i := 119) rfl), List.forall_mem_cons.mpr ⟨fun _ => yl3 (List.mem_of_getElem? (i := 120) rfl), List.forall_mem_cons.mpr ⟨fun _ => yl3 (List.mem_of_getElem? (i := 67) rfl), fun _ h => nomatch h⟩⟩⟩⟩⟩
theorem ow_p2 : ∀ w ∈ Bundle.passSAtoms "java/lang/Exception" Bundle.tN 7 Bundle.six, OwP w := List.forall_mem_cons.mpr ⟨fun _ => yl3 (List.mem_of_getElem? (i := 120) rfl), List.forall_mem_cons.mpr ⟨fun _ => yl3 (List.mem_of_getElem? (i := 121) rfl), List.forall_mem_cons.mpr ⟨fun _ => yl3 (List.mem_of_getElem? (i := 122) rfl), List.forall_mem_cons.mpr ⟨fun _ => yl3 (List.mem_of_getElem? (i := 123) rfl), List.forall_mem_cons.mpr ⟨fun _ => yl3 (List.mem_of_getElem? (i := 69) rfl), fun _ h => nomatch h⟩⟩⟩⟩⟩
theorem ow_y0 : ∀ w ∈ Bundle.passSAtoms "java/lang/IndexOutOfBoundsException" "java/lang/RuntimeException" 7 Bundle.six, OwP w := List.forall_mem_cons.mpr ⟨fun _ => yl3 (List.mem_of_getElem? (i := 163) rfl), List.forall_mem_cons.mpr ⟨fun _ => yl3 (List.mem_of_getElem? (i := 164) rfl), List.forall_mem_cons.mpr ⟨fun _ => yl3 (List.mem_of_getElem? (i := 165) rfl), List.forall_mem_cons.mpr ⟨fun _ => yl3 (List.mem_of_getElem? (i := 117) rfl), List.forall_mem_cons.mpr ⟨fun _ => yl3 (List.mem_of_getElem? (i := 65) rfl), fun _ h => nomatch h⟩⟩⟩⟩⟩
theorem ow_x0 : ∀ w ∈ Bundle.passSAtoms "java/lang/IndexOutOfBoundsException" "java/lang/RuntimeException" (xlI9 "java/lang/IndexOutOfBoundsException") (xlB9 "java/lang/IndexOutOfBoundsException"), OwP w := by
  rw [show xlI9 "java/lang/IndexOutOfBoundsException" = 7 from if_neg (by decide), show xlB9 "java/lang/IndexOutOfBoundsException" = Bundle.six from if_neg (by decide)]
  exact ow_y0
theorem ow_0 : ∀ w ∈ own9 RX7 233 "java/lang/IndexOutOfBoundsException", OwP w := List.forall_mem_append.mpr ⟨List.forall_mem_append.mpr ⟨List.forall_mem_append.mpr ⟨ow_thr, ow_thS⟩, List.forall_mem_append.mpr ⟨ow_x0, List.forall_mem_append.mpr ⟨ow_p1, ow_p2⟩⟩⟩, List.forall_mem_cons.mpr ⟨fun _ => yl4 (List.mem_of_getElem? (i := 59) rfl), List.forall_mem_cons.mpr ⟨fun _ => yl4 (List.mem_of_getElem? (i := 50) rfl), List.forall_mem_cons.mpr ⟨fun _ => yl4 (List.mem_of_getElem? (i := 51) rfl), List.forall_mem_cons.mpr ⟨fun _ => yl4 (List.mem_of_getElem? (i := 52) rfl), List.forall_mem_cons.mpr ⟨fun _ => yl3 (List.mem_of_getElem? (i := 97) rfl), List.forall_mem_cons.mpr ⟨fun _ => yl4 (List.mem_of_getElem? (i := 53) rfl), List.forall_mem_cons.mpr ⟨fun _ => yl4 (List.mem_of_getElem? (i := 54) rfl), List.forall_mem_cons.mpr ⟨fun _ => yl4 (List.mem_of_getElem? (i := 55) rfl), List.forall_mem_cons.mpr ⟨fun _ => yl4 (List.mem_of_getElem? (i := 56) rfl), List.forall_mem_cons.mpr ⟨fun h => absurd h (by decide +kernel), List.forall_mem_cons.mpr ⟨fun h => absurd h (by decide +kernel), List.forall_mem_cons.mpr ⟨fun _ => yl3 (List.mem_of_getElem? (i := 82) rfl), List.forall_mem_cons.mpr ⟨fun _ => yl3 (List.mem_of_getElem? (i := 81) rfl), List.forall_mem_cons.mpr ⟨fun _ => yl4 (List.mem_of_getElem? (i := 57) rfl), fun _ h => nomatch h⟩⟩⟩⟩⟩⟩⟩⟩⟩⟩⟩⟩⟩⟩⟩
theorem ow_y1 : ∀ w ∈ Bundle.passSAtoms "java/util/NoSuchElementException" "java/lang/RuntimeException" 13 xl13, OwP w := List.forall_mem_cons.mpr ⟨fun _ => yl4 (List.mem_of_getElem? (i := 73) rfl), List.forall_mem_cons.mpr ⟨fun _ => yl4 (List.mem_of_getElem? (i := 74) rfl), List.forall_mem_cons.mpr ⟨fun _ => yl4 (List.mem_of_getElem? (i := 75) rfl), List.forall_mem_cons.mpr ⟨fun _ => yl3 (List.mem_of_getElem? (i := 117) rfl), List.forall_mem_cons.mpr ⟨fun _ => yl3 (List.mem_of_getElem? (i := 65) rfl), fun _ h => nomatch h⟩⟩⟩⟩⟩
theorem ow_x1 : ∀ w ∈ Bundle.passSAtoms "java/util/NoSuchElementException" "java/lang/RuntimeException" (xlI9 "java/util/NoSuchElementException") (xlB9 "java/util/NoSuchElementException"), OwP w := by
  rw [show xlI9 "java/util/NoSuchElementException" = 13 from if_pos rfl, show xlB9 "java/util/NoSuchElementException" = xl13 from if_pos rfl]
  exact ow_y1
theorem ow_1 : ∀ w ∈ own9 RX7 126 "java/util/NoSuchElementException", OwP w := List.forall_mem_append.mpr ⟨List.forall_mem_append.mpr ⟨List.forall_mem_append.mpr ⟨ow_thr, ow_thS⟩, List.forall_mem_append.mpr ⟨ow_x1, List.forall_mem_append.mpr ⟨ow_p1, ow_p2⟩⟩⟩, List.forall_mem_cons.mpr ⟨fun _ => yl4 (List.mem_of_getElem? (i := 72) rfl), List.forall_mem_cons.mpr ⟨fun _ => yl4 (List.mem_of_getElem? (i := 63) rfl), List.forall_mem_cons.mpr ⟨fun _ => yl4 (List.mem_of_getElem? (i := 64) rfl), List.forall_mem_cons.mpr ⟨fun _ => yl4 (List.mem_of_getElem? (i := 65) rfl), List.forall_mem_cons.mpr ⟨fun _ => yl3 (List.mem_of_getElem? (i := 100) rfl), List.forall_mem_cons.mpr ⟨fun _ => yl4 (List.mem_of_getElem? (i := 66) rfl), List.forall_mem_cons.mpr ⟨fun _ => yl4 (List.mem_of_getElem? (i := 67) rfl), List.forall_mem_cons.mpr ⟨fun _ => yl4 (List.mem_of_getElem? (i := 68) rfl), List.forall_mem_cons.mpr ⟨fun _ => yl4 (List.mem_of_getElem? (i := 69) rfl), List.forall_mem_cons.mpr ⟨fun h => absurd h (by decide +kernel), List.forall_mem_cons.mpr ⟨fun h => absurd h (by decide +kernel), List.forall_mem_cons.mpr ⟨fun _ => yl3 (List.mem_of_getElem? (i := 82) rfl), List.forall_mem_cons.mpr ⟨fun _ => yl3 (List.mem_of_getElem? (i := 81) rfl), List.forall_mem_cons.mpr ⟨fun _ => yl4 (List.mem_of_getElem? (i := 70) rfl), fun _ h => nomatch h⟩⟩⟩⟩⟩⟩⟩⟩⟩⟩⟩⟩⟩⟩⟩
theorem ow_y2 : ∀ w ∈ Bundle.passSAtoms "java/lang/IllegalArgumentException" "java/lang/RuntimeException" 7 Bundle.six, OwP w := List.forall_mem_cons.mpr ⟨fun _ => yl3 (List.mem_of_getElem? (i := 114) rfl), List.forall_mem_cons.mpr ⟨fun _ => yl3 (List.mem_of_getElem? (i := 115) rfl), List.forall_mem_cons.mpr ⟨fun _ => yl3 (List.mem_of_getElem? (i := 116) rfl), List.forall_mem_cons.mpr ⟨fun _ => yl3 (List.mem_of_getElem? (i := 117) rfl), List.forall_mem_cons.mpr ⟨fun _ => yl3 (List.mem_of_getElem? (i := 65) rfl), fun _ h => nomatch h⟩⟩⟩⟩⟩
theorem ow_x2 : ∀ w ∈ Bundle.passSAtoms "java/lang/IllegalArgumentException" "java/lang/RuntimeException" (xlI9 "java/lang/IllegalArgumentException") (xlB9 "java/lang/IllegalArgumentException"), OwP w := by
  rw [show xlI9 "java/lang/IllegalArgumentException" = 7 from if_neg (by decide), show xlB9 "java/lang/IllegalArgumentException" = Bundle.six from if_neg (by decide)]
  exact ow_y2
theorem ow_2 : ∀ w ∈ own9 RX7 257 "java/lang/IllegalArgumentException", OwP w := List.forall_mem_append.mpr ⟨List.forall_mem_append.mpr ⟨List.forall_mem_append.mpr ⟨ow_thr, ow_thS⟩, List.forall_mem_append.mpr ⟨ow_x2, List.forall_mem_append.mpr ⟨ow_p1, ow_p2⟩⟩⟩, List.forall_mem_cons.mpr ⟨fun _ => yl4 (List.mem_of_getElem? (i := 80) rfl), List.forall_mem_cons.mpr ⟨fun _ => yl3 (List.mem_of_getElem? (i := 62) rfl), List.forall_mem_cons.mpr ⟨fun _ => yl3 (List.mem_of_getElem? (i := 63) rfl), List.forall_mem_cons.mpr ⟨fun _ => yl3 (List.mem_of_getElem? (i := 70) rfl), List.forall_mem_cons.mpr ⟨fun _ => yl3 (List.mem_of_getElem? (i := 71) rfl), List.forall_mem_cons.mpr ⟨fun _ => yl3 (List.mem_of_getElem? (i := 72) rfl), List.forall_mem_cons.mpr ⟨fun _ => yl3 (List.mem_of_getElem? (i := 74) rfl), List.forall_mem_cons.mpr ⟨fun _ => yl3 (List.mem_of_getElem? (i := 76) rfl), List.forall_mem_cons.mpr ⟨fun _ => yl3 (List.mem_of_getElem? (i := 78) rfl), List.forall_mem_cons.mpr ⟨fun h => absurd h (by decide +kernel), List.forall_mem_cons.mpr ⟨fun h => absurd h (by decide +kernel), List.forall_mem_cons.mpr ⟨fun _ => yl3 (List.mem_of_getElem? (i := 82) rfl), List.forall_mem_cons.mpr ⟨fun _ => yl3 (List.mem_of_getElem? (i := 81) rfl), List.forall_mem_cons.mpr ⟨fun _ => yl3 (List.mem_of_getElem? (i := 80) rfl), fun _ h => nomatch h⟩⟩⟩⟩⟩⟩⟩⟩⟩⟩⟩⟩⟩⟩⟩
theorem ow_y3 : ∀ w ∈ Bundle.passSAtoms "java/lang/UnsupportedOperationException" "java/lang/RuntimeException" 7 Bundle.six, OwP w := List.forall_mem_cons.mpr ⟨fun _ => yl4 (List.mem_of_getElem? (i := 92) rfl), List.forall_mem_cons.mpr ⟨fun _ => yl4 (List.mem_of_getElem? (i := 93) rfl), List.forall_mem_cons.mpr ⟨fun _ => yl4 (List.mem_of_getElem? (i := 94) rfl), List.forall_mem_cons.mpr ⟨fun _ => yl3 (List.mem_of_getElem? (i := 117) rfl), List.forall_mem_cons.mpr ⟨fun _ => yl3 (List.mem_of_getElem? (i := 65) rfl), fun _ h => nomatch h⟩⟩⟩⟩⟩
theorem ow_x3 : ∀ w ∈ Bundle.passSAtoms "java/lang/UnsupportedOperationException" "java/lang/RuntimeException" (xlI9 "java/lang/UnsupportedOperationException") (xlB9 "java/lang/UnsupportedOperationException"), OwP w := by
  rw [show xlI9 "java/lang/UnsupportedOperationException" = 7 from if_neg (by decide), show xlB9 "java/lang/UnsupportedOperationException" = Bundle.six from if_neg (by decide)]
  exact ow_y3
theorem ow_3 : ∀ w ∈ own9 RX7 265 "java/lang/UnsupportedOperationException", OwP w := List.forall_mem_append.mpr ⟨List.forall_mem_append.mpr ⟨List.forall_mem_append.mpr ⟨ow_thr, ow_thS⟩, List.forall_mem_append.mpr ⟨ow_x3, List.forall_mem_append.mpr ⟨ow_p1, ow_p2⟩⟩⟩, List.forall_mem_cons.mpr ⟨fun _ => yl4 (List.mem_of_getElem? (i := 91) rfl), List.forall_mem_cons.mpr ⟨fun _ => yl4 (List.mem_of_getElem? (i := 82) rfl), List.forall_mem_cons.mpr ⟨fun _ => yl4 (List.mem_of_getElem? (i := 83) rfl), List.forall_mem_cons.mpr ⟨fun _ => yl4 (List.mem_of_getElem? (i := 84) rfl), List.forall_mem_cons.mpr ⟨fun _ => yl3 (List.mem_of_getElem? (i := 99) rfl), List.forall_mem_cons.mpr ⟨fun _ => yl4 (List.mem_of_getElem? (i := 85) rfl), List.forall_mem_cons.mpr ⟨fun _ => yl4 (List.mem_of_getElem? (i := 86) rfl), List.forall_mem_cons.mpr ⟨fun _ => yl4 (List.mem_of_getElem? (i := 87) rfl), List.forall_mem_cons.mpr ⟨fun _ => yl4 (List.mem_of_getElem? (i := 88) rfl), List.forall_mem_cons.mpr ⟨fun h => absurd h (by decide +kernel), List.forall_mem_cons.mpr ⟨fun h => absurd h (by decide +kernel), List.forall_mem_cons.mpr ⟨fun _ => yl3 (List.mem_of_getElem? (i := 82) rfl), List.forall_mem_cons.mpr ⟨fun _ => yl3 (List.mem_of_getElem? (i := 81) rfl), List.forall_mem_cons.mpr ⟨fun _ => yl4 (List.mem_of_getElem? (i := 89) rfl), fun _ h => nomatch h⟩⟩⟩⟩⟩⟩⟩⟩⟩⟩⟩⟩⟩⟩⟩
theorem ow_y4 : ∀ w ∈ Bundle.passSAtoms "java/lang/IllegalStateException" "java/lang/RuntimeException" 7 Bundle.six, OwP w := List.forall_mem_cons.mpr ⟨fun _ => yl4 (List.mem_of_getElem? (i := 108) rfl), List.forall_mem_cons.mpr ⟨fun _ => yl4 (List.mem_of_getElem? (i := 109) rfl), List.forall_mem_cons.mpr ⟨fun _ => yl4 (List.mem_of_getElem? (i := 110) rfl), List.forall_mem_cons.mpr ⟨fun _ => yl3 (List.mem_of_getElem? (i := 117) rfl), List.forall_mem_cons.mpr ⟨fun _ => yl3 (List.mem_of_getElem? (i := 65) rfl), fun _ h => nomatch h⟩⟩⟩⟩⟩
theorem ow_x4 : ∀ w ∈ Bundle.passSAtoms "java/lang/IllegalStateException" "java/lang/RuntimeException" (xlI9 "java/lang/IllegalStateException") (xlB9 "java/lang/IllegalStateException"), OwP w := by
  rw [show xlI9 "java/lang/IllegalStateException" = 7 from if_neg (by decide), show xlB9 "java/lang/IllegalStateException" = Bundle.six from if_neg (by decide)]
  exact ow_y4
theorem ow_4 : ∀ w ∈ own9 RX7 244 "java/lang/IllegalStateException", OwP w := List.forall_mem_append.mpr ⟨List.forall_mem_append.mpr ⟨List.forall_mem_append.mpr ⟨ow_thr, ow_thS⟩, List.forall_mem_append.mpr ⟨ow_x4, List.forall_mem_append.mpr ⟨ow_p1, ow_p2⟩⟩⟩, List.forall_mem_cons.mpr ⟨fun _ => yl4 (List.mem_of_getElem? (i := 107) rfl), List.forall_mem_cons.mpr ⟨fun _ => yl4 (List.mem_of_getElem? (i := 98) rfl), List.forall_mem_cons.mpr ⟨fun _ => yl4 (List.mem_of_getElem? (i := 99) rfl), List.forall_mem_cons.mpr ⟨fun _ => yl4 (List.mem_of_getElem? (i := 100) rfl), List.forall_mem_cons.mpr ⟨fun _ => yl3 (List.mem_of_getElem? (i := 96) rfl), List.forall_mem_cons.mpr ⟨fun _ => yl4 (List.mem_of_getElem? (i := 101) rfl), List.forall_mem_cons.mpr ⟨fun _ => yl4 (List.mem_of_getElem? (i := 102) rfl), List.forall_mem_cons.mpr ⟨fun _ => yl4 (List.mem_of_getElem? (i := 103) rfl), List.forall_mem_cons.mpr ⟨fun _ => yl4 (List.mem_of_getElem? (i := 104) rfl), List.forall_mem_cons.mpr ⟨fun h => absurd h (by decide +kernel), List.forall_mem_cons.mpr ⟨fun h => absurd h (by decide +kernel), List.forall_mem_cons.mpr ⟨fun _ => yl3 (List.mem_of_getElem? (i := 82) rfl), List.forall_mem_cons.mpr ⟨fun _ => yl3 (List.mem_of_getElem? (i := 81) rfl), List.forall_mem_cons.mpr ⟨fun _ => yl4 (List.mem_of_getElem? (i := 105) rfl), fun _ h => nomatch h⟩⟩⟩⟩⟩⟩⟩⟩⟩⟩⟩⟩⟩⟩⟩
theorem ow_y5 : ∀ w ∈ Bundle.passSAtoms "java/lang/ArithmeticException" "java/lang/RuntimeException" 7 Bundle.six, OwP w := List.forall_mem_cons.mpr ⟨fun _ => yl5 (List.mem_of_getElem? (i := 166) rfl), List.forall_mem_cons.mpr ⟨fun _ => yl5 (List.mem_of_getElem? (i := 167) rfl), List.forall_mem_cons.mpr ⟨fun _ => yl5 (List.mem_of_getElem? (i := 168) rfl), List.forall_mem_cons.mpr ⟨fun _ => yl3 (List.mem_of_getElem? (i := 117) rfl), List.forall_mem_cons.mpr ⟨fun _ => yl3 (List.mem_of_getElem? (i := 65) rfl), fun _ h => nomatch h⟩⟩⟩⟩⟩
theorem ow_x5 : ∀ w ∈ Bundle.passSAtoms "java/lang/ArithmeticException" "java/lang/RuntimeException" (xlI9 "java/lang/ArithmeticException") (xlB9 "java/lang/ArithmeticException"), OwP w := by
  rw [show xlI9 "java/lang/ArithmeticException" = 7 from if_neg (by decide), show xlB9 "java/lang/ArithmeticException" = Bundle.six from if_neg (by decide)]
  exact ow_y5
theorem ow_5 : ∀ w ∈ own9 RX7 191 "java/lang/ArithmeticException", OwP w := List.forall_mem_append.mpr ⟨List.forall_mem_append.mpr ⟨List.forall_mem_append.mpr ⟨ow_thr, ow_thS⟩, List.forall_mem_append.mpr ⟨ow_x5, List.forall_mem_append.mpr ⟨ow_p1, ow_p2⟩⟩⟩, List.forall_mem_cons.mpr ⟨fun _ => yl5 (List.mem_of_getElem? (i := 183) rfl), List.forall_mem_cons.mpr ⟨fun _ => yl5 (List.mem_of_getElem? (i := 165) rfl), List.forall_mem_cons.mpr ⟨fun _ => yl5 (List.mem_of_getElem? (i := 176) rfl), List.forall_mem_cons.mpr ⟨fun _ => yl5 (List.mem_of_getElem? (i := 177) rfl), List.forall_mem_cons.mpr ⟨fun _ => yl3 (List.mem_of_getElem? (i := 94) rfl), List.forall_mem_cons.mpr ⟨fun _ => yl5 (List.mem_of_getElem? (i := 171) rfl), List.forall_mem_cons.mpr ⟨fun _ => yl5 (List.mem_of_getElem? (i := 172) rfl), List.forall_mem_cons.mpr ⟨fun _ => yl5 (List.mem_of_getElem? (i := 174) rfl), List.forall_mem_cons.mpr ⟨fun _ => yl5 (List.mem_of_getElem? (i := 170) rfl), List.forall_mem_cons.mpr ⟨fun h => absurd h (by decide +kernel), List.forall_mem_cons.mpr ⟨fun h => absurd h (by decide +kernel), List.forall_mem_cons.mpr ⟨fun _ => yl3 (List.mem_of_getElem? (i := 82) rfl), List.forall_mem_cons.mpr ⟨fun _ => yl3 (List.mem_of_getElem? (i := 81) rfl), List.forall_mem_cons.mpr ⟨fun _ => yl5 (List.mem_of_getElem? (i := 169) rfl), fun _ h => nomatch h⟩⟩⟩⟩⟩⟩⟩⟩⟩⟩⟩⟩⟩⟩⟩
theorem yw_own : ∀ x ∈ XCL, ∀ w ∈ vx_at9 RX7 x.2.2 x.1, w ∈ lw_tbl := by
  have h : ∀ x ∈ XCL, ∀ w ∈ own9 RX7 x.2.2 x.1, OwP w := List.forall_mem_cons.mpr ⟨ow_0, List.forall_mem_cons.mpr ⟨ow_1, List.forall_mem_cons.mpr ⟨ow_2, List.forall_mem_cons.mpr ⟨ow_3, List.forall_mem_cons.mpr ⟨ow_4, List.forall_mem_cons.mpr ⟨ow_5, fun _ h => nomatch h⟩⟩⟩⟩⟩⟩
  exact fun x hx w hw => h x hx w (List.mem_filter.mp hw).1 (List.mem_filter.mp hw).2
theorem sel_priv {C : String} {y z x : MethodName} {n : Nat} {args : Array Value} {s : State} (hy : y.cls ≠ "java/lang/invoke/MethodHandle" ∧ y.cls ≠ "java/lang/invoke/VarHandle") (hz : z.cls = y.cls) (hins : (Cond.instantiable C n).before args s = true) (hpriv : (Cond.privateMethod y).before args s = true) (hinst : (Cond.instanceMethod y).before args s = true) (hsel : (Cond.selects C x z).before args s = true) : (Cond.selects C y y).before args s = true := by
  obtain ⟨c, k, hc, hk, -⟩ := Cond.instantiable_spec (args := args) (first := s) (o := none) (s := s) (idx := []) hins
  obtain ⟨mk, methM, hnamed, hmethM, -, -⟩ := Cond.instanceMethod_spec (args := args) (first := s) (o := none) (s := s) (idx := []) hinst
  obtain ⟨c', r, m, g1, g2, g3, g4, kk, g5, g6⟩ := Cond.selects_spec (args := args) (first := s) (o := none) (s := s) (idx := []) hsel
  have hfound : s.methodFound? y.cls y.name y.desc = some mk := State.methodFound?_of_named hnamed hy
  have e1 := findClass_of_methodNamed hnamed
  have e2 := findClass_of_methodNamed g3
  rw [hz] at e2
  have hcls : mk.cls = m.cls := Option.some.inj (e1.symm.trans e2)
  have hs : selectMethod {} s.vm c mk = .method mk := selectMethod_private hmethM (Cond.privateMethod_at hpriv mk methM hnamed hmethM)
  have hkk : s.vm.classes[mk.cls]? = some kk := by rw [hcls]; exact g5
  simp only [Cond.before, Cond.holds, Cond.value, hc, hfound, hnamed, hs, hkk]
  simp
  exact g6
theorem yp_ens_priv : Cond.privateMethod yJ5_ensureCapacityInternal_d00df ∈ lw_tbl := (fun _ => yl2 (List.mem_of_getElem? (i := 134) rfl) : True → _) trivial
theorem yp_ens_inst : Cond.instanceMethod yJ5_ensureCapacityInternal_d00df ∈ lw_tbl := (fun _ => yl2 (List.mem_of_getElem? (i := 135) rfl) : True → _) trivial
theorem yp_new_priv : Cond.privateMethod yJ5_newCapacity_0f7a4 ∈ lw_tbl := (fun _ => yl2 (List.mem_of_getElem? (i := 138) rfl) : True → _) trivial
theorem yp_new_inst : Cond.instanceMethod yJ5_newCapacity_0f7a4 ∈ lw_tbl := (fun _ => yl2 (List.mem_of_getElem? (i := 139) rfl) : True → _) trivial
theorem yw_sel {args : Array Value} {s : State} (hts : ∀ w ∈ lw_tbl, w.before args s = true) : ∀ y ∈ PVL, (Cond.selects RJ4 y y).before args s = true := by
  have g : ∀ w ∈ GW, w.before args s = true := fun w hw => hts w (List.mem_filter.mp hw).1
  refine List.forall_mem_cons.mpr ⟨?_, List.forall_mem_cons.mpr ⟨?_, fun _ h => nomatch h⟩⟩
  · exact sel_priv (by decide +kernel) (by decide +kernel) (g _ g1_177) (hts _ yp_ens_priv) (hts _ yp_ens_inst) (g _ g2_169)
  · exact sel_priv (by decide +kernel) (by decide +kernel) (g _ g1_177) (hts _ yp_new_priv) (hts _ yp_new_inst) (g _ g2_169)
theorem ytx : ∀ i, i < 10 → flt (KP i) = sTx i := by decide +kernel
theorem ymt : ∀ q ∈ mtx, ∃ j, j < 24 ∧ (sRow j).1 = 8 ∧ (sRow j).2.1 = q.1 ∧ sTx j = q.2 := by decide +kernel
theorem yln : ∀ j, j < 24 → (sTx j).length < 60 ∧ (sTx j).all (fun c => decide (c < 128)) = true := by decide +kernel
