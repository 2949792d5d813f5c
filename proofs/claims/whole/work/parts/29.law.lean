/-! THE LAW -/
theorem in_Lw : Cond.initialized "PictureFileLaw" ∈ kw_Ts := (kw_m1 (i := 0) (by decide +kernel) (by decide +kernel))
theorem mh_Lw_feed_79 : kw_mh "PictureFileLaw" 79 y_Lw_feed method_3_code 8 (some .int) (hs_Lw_feed.map Prod.fst) 7 := ⟨(kw_m3 (i := 219) (by decide +kernel) (by decide +kernel)), w_Lw_feed, in_Lw, by decide +kernel, by decide +kernel, by decide +kernel⟩
theorem s_Lw_feed : Cond.static y_Lw_feed ∈ kw_Ts := (kw_m3 (i := 220) (by decide +kernel) (by decide +kernel))
theorem mi_Lw_84 : kw_mi "PictureFileLaw" 84 y_Md_feed prog_14_method_6_code 8 (some .int) 5 := ⟨(kw_m6 (i := 80) (by decide +kernel) (by decide +kernel)), w_Md_feed, in_Md, by decide +kernel, by decide +kernel, by decide +kernel⟩
theorem v_Md_feed : Cond.instanceMethod y_Md_feed ∈ kw_Ts ∧ Cond.selects y_Md_feed.cls y_Md_feed y_Md_feed ∈ kw_Ts := ⟨(kw_m6 (i := 81) (by decide +kernel) (by decide +kernel)), (kw_m6 (i := 82) (by decide +kernel) (by decide +kernel))⟩
theorem mi_Lw_85 : kw_mi "PictureFileLaw" 85 y_Md_thrown prog_14_method_5_code 1 (some .int) 0 := ⟨(kw_m6 (i := 76) (by decide +kernel) (by decide +kernel)), w_Md_thrown, in_Md, by decide +kernel, by decide +kernel, by decide +kernel⟩
theorem v_Md_thrown : Cond.instanceMethod y_Md_thrown ∈ kw_Ts ∧ Cond.selects y_Md_thrown.cls y_Md_thrown y_Md_thrown ∈ kw_Ts := ⟨(kw_m6 (i := 77) (by decide +kernel) (by decide +kernel)), (kw_m6 (i := 78) (by decide +kernel) (by decide +kernel))⟩
theorem mh_Lw_end_89 : kw_mh "PictureFileLaw" 89 y_Lw_end method_4_code 3 (some .int) (hs_Lw_end.map Prod.fst) 2 := ⟨(kw_m4 (i := 64) (by decide +kernel) (by decide +kernel)), w_Lw_end, in_Lw, by decide +kernel, by decide +kernel, by decide +kernel⟩
theorem s_Lw_end : Cond.static y_Lw_end ∈ kw_Ts := (kw_m4 (i := 65) (by decide +kernel) (by decide +kernel))
theorem mi_Lw_92 : kw_mi "PictureFileLaw" 92 y_Md_end prog_14_method_7_code 2 none 1 := ⟨(kw_m6 (i := 84) (by decide +kernel) (by decide +kernel)), w_Md_end, in_Md, by decide +kernel, by decide +kernel, by decide +kernel⟩
theorem v_Md_end : Cond.instanceMethod y_Md_end ∈ kw_Ts ∧ Cond.selects y_Md_end.cls y_Md_end y_Md_end ∈ kw_Ts := ⟨(kw_m6 (i := 85) (by decide +kernel) (by decide +kernel)), (kw_m6 (i := 86) (by decide +kernel) (by decide +kernel))⟩
theorem mi_Lw_93 : kw_mi "PictureFileLaw" 93 y_PF_read prog_1_method_4_code 3 (some .int) 0 := ⟨(kw_m2 (i := 198) (by decide +kernel) (by decide +kernel)), w_PF_read, in_PF, by decide +kernel, by decide +kernel, by decide +kernel⟩
theorem v_PF_read : Cond.instanceMethod y_PF_read ∈ kw_Ts ∧ Cond.selects y_PF_read.cls y_PF_read y_PF_read ∈ kw_Ts := ⟨(kw_m2 (i := 199) (by decide +kernel) (by decide +kernel)), (kw_m2 (i := 200) (by decide +kernel) (by decide +kernel))⟩
theorem mi_Lw_96 : kw_mi "PictureFileLaw" 96 y_Md_read prog_14_method_62_code 5 (some .int) 0 := ⟨(kw_m6 (i := 115) (by decide +kernel) (by decide +kernel)), w_Md_read, in_Md, by decide +kernel, by decide +kernel, by decide +kernel⟩
theorem v_Md_read : Cond.instanceMethod y_Md_read ∈ kw_Ts ∧ Cond.selects y_Md_read.cls y_Md_read y_Md_read ∈ kw_Ts := ⟨(kw_m6 (i := 116) (by decide +kernel) (by decide +kernel)), (kw_m6 (i := 117) (by decide +kernel) (by decide +kernel))⟩
theorem mi_Lw_97 : kw_mi "PictureFileLaw" 97 y_PF_fault prog_1_method_5_code 1 (some .int) 0 := ⟨(kw_m3 (i := 215) (by decide +kernel) (by decide +kernel)), w_PF_fault, in_PF, by decide +kernel, by decide +kernel, by decide +kernel⟩
theorem v_PF_fault : Cond.instanceMethod y_PF_fault ∈ kw_Ts ∧ Cond.selects y_PF_fault.cls y_PF_fault y_PF_fault ∈ kw_Ts := ⟨(kw_m3 (i := 216) (by decide +kernel) (by decide +kernel)), (kw_m3 (i := 217) (by decide +kernel) (by decide +kernel))⟩
theorem mi_Lw_100 : kw_mi "PictureFileLaw" 100 y_Md_fault prog_14_method_64_code 1 (some .int) 0 := ⟨(kw_m7 (i := 77) (by decide +kernel) (by decide +kernel)), w_Md_fault, in_Md, by decide +kernel, by decide +kernel, by decide +kernel⟩
theorem v_Md_fault : Cond.instanceMethod y_Md_fault ∈ kw_Ts ∧ Cond.selects y_Md_fault.cls y_Md_fault y_Md_fault ∈ kw_Ts := ⟨(kw_m7 (i := 78) (by decide +kernel) (by decide +kernel)), (kw_m7 (i := 79) (by decide +kernel) (by decide +kernel))⟩
theorem mh_Lw_make_101 : kw_mh "PictureFileLaw" 101 y_Lw_make method_5_code 7 (some .int) (hs_Lw_make.map Prod.fst) 6 := ⟨(kw_m4 (i := 87) (by decide +kernel) (by decide +kernel)), w_Lw_make, in_Lw, by decide +kernel, by decide +kernel, by decide +kernel⟩
theorem s_Lw_make : Cond.static y_Lw_make ∈ kw_Ts := (kw_m4 (i := 88) (by decide +kernel) (by decide +kernel))
theorem mi_Lw_104 : kw_mi "PictureFileLaw" 104 y_Md_make prog_14_method_65_code 7 none 5 := ⟨(kw_m7 (i := 81) (by decide +kernel) (by decide +kernel)), w_Md_make, in_Md, by decide +kernel, by decide +kernel, by decide +kernel⟩
theorem v_Md_make : Cond.instanceMethod y_Md_make ∈ kw_Ts ∧ Cond.selects y_Md_make.cls y_Md_make y_Md_make ∈ kw_Ts := ⟨(kw_m7 (i := 82) (by decide +kernel) (by decide +kernel)), (kw_m7 (i := 83) (by decide +kernel) (by decide +kernel))⟩
theorem mh_Lw_about_105 : kw_mh "PictureFileLaw" 105 y_Lw_about method_6_code 4 (some .int) (hs_Lw_about.map Prod.fst) 3 := ⟨(kw_m4 (i := 98) (by decide +kernel) (by decide +kernel)), w_Lw_about, in_Lw, by decide +kernel, by decide +kernel, by decide +kernel⟩
theorem s_Lw_about : Cond.static y_Lw_about ∈ kw_Ts := (kw_m4 (i := 99) (by decide +kernel) (by decide +kernel))
theorem mi_Lw_108 : kw_mi "PictureFileLaw" 108 y_Md_about prog_14_method_66_code 2 (some .int) 1 := ⟨(kw_m7 (i := 85) (by decide +kernel) (by decide +kernel)), w_Md_about, in_Md, by decide +kernel, by decide +kernel, by decide +kernel⟩
theorem v_Md_about : Cond.instanceMethod y_Md_about ∈ kw_Ts ∧ Cond.selects y_Md_about.cls y_Md_about y_Md_about ∈ kw_Ts := ⟨(kw_m7 (i := 86) (by decide +kernel) (by decide +kernel)), (kw_m7 (i := 87) (by decide +kernel) (by decide +kernel))⟩
theorem mh_Lw_sample_109 : kw_mh "PictureFileLaw" 109 y_Lw_sample method_7_code 6 (some .int) (hs_Lw_sample.map Prod.fst) 5 := ⟨(kw_m4 (i := 125) (by decide +kernel) (by decide +kernel)), w_Lw_sample, in_Lw, by decide +kernel, by decide +kernel, by decide +kernel⟩
theorem s_Lw_sample : Cond.static y_Lw_sample ∈ kw_Ts := (kw_m4 (i := 126) (by decide +kernel) (by decide +kernel))
theorem mi_Lw_112 : kw_mi "PictureFileLaw" 112 y_Md_sample prog_14_method_69_code 4 (some .int) 3 := ⟨(kw_m7 (i := 89) (by decide +kernel) (by decide +kernel)), w_Md_sample, in_Md, by decide +kernel, by decide +kernel, by decide +kernel⟩
theorem v_Md_sample : Cond.instanceMethod y_Md_sample ∈ kw_Ts ∧ Cond.selects y_Md_sample.cls y_Md_sample y_Md_sample ∈ kw_Ts := ⟨(kw_m7 (i := 90) (by decide +kernel) (by decide +kernel)), (kw_m7 (i := 91) (by decide +kernel) (by decide +kernel))⟩
theorem mh_Lw_set_113 : kw_mh "PictureFileLaw" 113 y_Lw_set method_8_code 6 (some .int) (hs_Lw_set.map Prod.fst) 5 := ⟨(kw_m4 (i := 153) (by decide +kernel) (by decide +kernel)), w_Lw_set, in_Lw, by decide +kernel, by decide +kernel, by decide +kernel⟩
theorem s_Lw_set : Cond.static y_Lw_set ∈ kw_Ts := (kw_m4 (i := 154) (by decide +kernel) (by decide +kernel))
theorem mi_Lw_116 : kw_mi "PictureFileLaw" 116 y_Md_set prog_14_method_70_code 5 none 4 := ⟨(kw_m7 (i := 97) (by decide +kernel) (by decide +kernel)), w_Md_set, in_Md, by decide +kernel, by decide +kernel, by decide +kernel⟩
theorem v_Md_set : Cond.instanceMethod y_Md_set ∈ kw_Ts ∧ Cond.selects y_Md_set.cls y_Md_set y_Md_set ∈ kw_Ts := ⟨(kw_m7 (i := 98) (by decide +kernel) (by decide +kernel)), (kw_m7 (i := 99) (by decide +kernel) (by decide +kernel))⟩
theorem mh_Lw_fill_117 : kw_mh "PictureFileLaw" 117 y_Lw_fill method_9_code 8 (some .int) (hs_Lw_fill.map Prod.fst) 7 := ⟨(kw_m4 (i := 172) (by decide +kernel) (by decide +kernel)), w_Lw_fill, in_Lw, by decide +kernel, by decide +kernel, by decide +kernel⟩
theorem s_Lw_fill : Cond.static y_Lw_fill ∈ kw_Ts := (kw_m4 (i := 173) (by decide +kernel) (by decide +kernel))
theorem mi_Lw_120 : kw_mi "PictureFileLaw" 120 y_Md_fill prog_14_method_71_code 9 none 6 := ⟨(kw_m7 (i := 105) (by decide +kernel) (by decide +kernel)), w_Md_fill, in_Md, by decide +kernel, by decide +kernel, by decide +kernel⟩
theorem v_Md_fill : Cond.instanceMethod y_Md_fill ∈ kw_Ts ∧ Cond.selects y_Md_fill.cls y_Md_fill y_Md_fill ∈ kw_Ts := ⟨(kw_m7 (i := 106) (by decide +kernel) (by decide +kernel)), (kw_m7 (i := 107) (by decide +kernel) (by decide +kernel))⟩
theorem mh_Lw_colour_121 : kw_mh "PictureFileLaw" 121 y_Lw_colour method_10_code 6 (some .int) (hs_Lw_colour.map Prod.fst) 5 := ⟨(kw_m4 (i := 179) (by decide +kernel) (by decide +kernel)), w_Lw_colour, in_Lw, by decide +kernel, by decide +kernel, by decide +kernel⟩
theorem s_Lw_colour : Cond.static y_Lw_colour ∈ kw_Ts := (kw_m4 (i := 180) (by decide +kernel) (by decide +kernel))
theorem mi_Lw_123 : kw_mi "PictureFileLaw" 123 y_Md_colour prog_14_method_72_code 4 (some .int) 3 := ⟨(kw_m7 (i := 109) (by decide +kernel) (by decide +kernel)), w_Md_colour, in_Md, by decide +kernel, by decide +kernel, by decide +kernel⟩
theorem v_Md_colour : Cond.instanceMethod y_Md_colour ∈ kw_Ts ∧ Cond.selects y_Md_colour.cls y_Md_colour y_Md_colour ∈ kw_Ts := ⟨(kw_m7 (i := 110) (by decide +kernel) (by decide +kernel)), (kw_m7 (i := 111) (by decide +kernel) (by decide +kernel))⟩
theorem mh_Lw_ofColour_124 : kw_mh "PictureFileLaw" 124 y_Lw_ofColour method_11_code 5 (some .int) (hs_Lw_ofColour.map Prod.fst) 4 := ⟨(kw_m4 (i := 188) (by decide +kernel) (by decide +kernel)), w_Lw_ofColour, in_Lw, by decide +kernel, by decide +kernel, by decide +kernel⟩
theorem s_Lw_ofColour : Cond.static y_Lw_ofColour ∈ kw_Ts := (kw_m4 (i := 189) (by decide +kernel) (by decide +kernel))
theorem mi_Lw_127 : kw_mi "PictureFileLaw" 127 y_Md_ofColour prog_14_method_73_code 3 (some .int) 2 := ⟨(kw_m7 (i := 113) (by decide +kernel) (by decide +kernel)), w_Md_ofColour, in_Md, by decide +kernel, by decide +kernel, by decide +kernel⟩
theorem v_Md_ofColour : Cond.instanceMethod y_Md_ofColour ∈ kw_Ts ∧ Cond.selects y_Md_ofColour.cls y_Md_ofColour y_Md_ofColour ∈ kw_Ts := ⟨(kw_m7 (i := 114) (by decide +kernel) (by decide +kernel)), (kw_m7 (i := 115) (by decide +kernel) (by decide +kernel))⟩
theorem mh_Lw_thin_128 : kw_mh "PictureFileLaw" 128 y_Lw_thin method_12_code 6 (some .int) (hs_Lw_thin.map Prod.fst) 5 := ⟨(kw_m4 (i := 195) (by decide +kernel) (by decide +kernel)), w_Lw_thin, in_Lw, by decide +kernel, by decide +kernel, by decide +kernel⟩
theorem s_Lw_thin : Cond.static y_Lw_thin ∈ kw_Ts := (kw_m4 (i := 196) (by decide +kernel) (by decide +kernel))
theorem mi_Lw_130 : kw_mi "PictureFileLaw" 130 y_Md_thin prog_14_method_75_code 5 (some .int) 3 := ⟨(kw_m7 (i := 117) (by decide +kernel) (by decide +kernel)), w_Md_thin, in_Md, by decide +kernel, by decide +kernel, by decide +kernel⟩
theorem v_Md_thin : Cond.instanceMethod y_Md_thin ∈ kw_Ts ∧ Cond.selects y_Md_thin.cls y_Md_thin y_Md_thin ∈ kw_Ts := ⟨(kw_m7 (i := 118) (by decide +kernel) (by decide +kernel)), (kw_m7 (i := 119) (by decide +kernel) (by decide +kernel))⟩
theorem mh_Lw_ofThin_131 : kw_mh "PictureFileLaw" 131 y_Lw_ofThin method_13_code 4 (some .int) (hs_Lw_ofThin.map Prod.fst) 3 := ⟨(kw_m4 (i := 207) (by decide +kernel) (by decide +kernel)), w_Lw_ofThin, in_Lw, by decide +kernel, by decide +kernel, by decide +kernel⟩
theorem s_Lw_ofThin : Cond.static y_Lw_ofThin ∈ kw_Ts := (kw_m4 (i := 208) (by decide +kernel) (by decide +kernel))
theorem mi_Lw_133 : kw_mi "PictureFileLaw" 133 y_Md_ofThin prog_14_method_76_code 2 (some .int) 1 := ⟨(kw_m7 (i := 125) (by decide +kernel) (by decide +kernel)), w_Md_ofThin, in_Md, by decide +kernel, by decide +kernel, by decide +kernel⟩
theorem v_Md_ofThin : Cond.instanceMethod y_Md_ofThin ∈ kw_Ts ∧ Cond.selects y_Md_ofThin.cls y_Md_ofThin y_Md_ofThin ∈ kw_Ts := ⟨(kw_m7 (i := 126) (by decide +kernel) (by decide +kernel)), (kw_m7 (i := 127) (by decide +kernel) (by decide +kernel))⟩
theorem mh_Lw_filter_134 : kw_mh "PictureFileLaw" 134 y_Lw_filter method_14_code 4 (some .int) (hs_Lw_filter.map Prod.fst) 3 := ⟨(kw_m4 (i := 214) (by decide +kernel) (by decide +kernel)), w_Lw_filter, in_Lw, by decide +kernel, by decide +kernel, by decide +kernel⟩
theorem s_Lw_filter : Cond.static y_Lw_filter ∈ kw_Ts := (kw_m4 (i := 215) (by decide +kernel) (by decide +kernel))
theorem mi_Lw_136 : kw_mi "PictureFileLaw" 136 y_Md_filter prog_14_method_80_code 2 (some .int) 1 := ⟨(kw_m7 (i := 129) (by decide +kernel) (by decide +kernel)), w_Md_filter, in_Md, by decide +kernel, by decide +kernel, by decide +kernel⟩
theorem v_Md_filter : Cond.instanceMethod y_Md_filter ∈ kw_Ts ∧ Cond.selects y_Md_filter.cls y_Md_filter y_Md_filter ∈ kw_Ts := ⟨(kw_m7 (i := 130) (by decide +kernel) (by decide +kernel)), (kw_m7 (i := 131) (by decide +kernel) (by decide +kernel))⟩
theorem mh_Lw_write_137 : kw_mh "PictureFileLaw" 137 y_Lw_write method_15_code 4 (some .int) (hs_Lw_write.map Prod.fst) 3 := ⟨(kw_m4 (i := 237) (by decide +kernel) (by decide +kernel)), w_Lw_write, in_Lw, by decide +kernel, by decide +kernel, by decide +kernel⟩
theorem s_Lw_write : Cond.static y_Lw_write ∈ kw_Ts := (kw_m4 (i := 238) (by decide +kernel) (by decide +kernel))
theorem mi_Lw_140 : kw_mi "PictureFileLaw" 140 y_Md_write prog_14_method_85_code 6 (some .int) 1 := ⟨(kw_m7 (i := 145) (by decide +kernel) (by decide +kernel)), w_Md_write, in_Md, by decide +kernel, by decide +kernel, by decide +kernel⟩
theorem v_Md_write : Cond.instanceMethod y_Md_write ∈ kw_Ts ∧ Cond.selects y_Md_write.cls y_Md_write y_Md_write ∈ kw_Ts := ⟨(kw_m7 (i := 146) (by decide +kernel) (by decide +kernel)), (kw_m7 (i := 147) (by decide +kernel) (by decide +kernel))⟩
theorem mh_Lw_byteAt_141 : kw_mh "PictureFileLaw" 141 y_Lw_byteAt method_16_code 4 (some .int) (hs_Lw_byteAt.map Prod.fst) 3 := ⟨(kw_m5 (i := 107) (by decide +kernel) (by decide +kernel)), w_Lw_byteAt, in_Lw, by decide +kernel, by decide +kernel, by decide +kernel⟩
theorem s_Lw_byteAt : Cond.static y_Lw_byteAt ∈ kw_Ts := (kw_m5 (i := 108) (by decide +kernel) (by decide +kernel))
theorem mi_Lw_143 : kw_mi "PictureFileLaw" 143 y_Md_byteAt prog_14_method_8_code 2 (some .int) 1 := ⟨(kw_m6 (i := 88) (by decide +kernel) (by decide +kernel)), w_Md_byteAt, in_Md, by decide +kernel, by decide +kernel, by decide +kernel⟩
theorem v_Md_byteAt : Cond.instanceMethod y_Md_byteAt ∈ kw_Ts ∧ Cond.selects y_Md_byteAt.cls y_Md_byteAt y_Md_byteAt ∈ kw_Ts := ⟨(kw_m6 (i := 89) (by decide +kernel) (by decide +kernel)), (kw_m6 (i := 90) (by decide +kernel) (by decide +kernel))⟩
theorem mh_Lw_spoil_144 : kw_mh "PictureFileLaw" 144 y_Lw_spoil method_17_code 4 (some .int) (hs_Lw_spoil.map Prod.fst) 3 := ⟨(kw_m5 (i := 118) (by decide +kernel) (by decide +kernel)), w_Lw_spoil, in_Lw, by decide +kernel, by decide +kernel, by decide +kernel⟩
theorem s_Lw_spoil : Cond.static y_Lw_spoil ∈ kw_Ts := (kw_m5 (i := 119) (by decide +kernel) (by decide +kernel))
theorem mi_Lw_147 : kw_mi "PictureFileLaw" 147 y_Md_spoil prog_14_method_9_code 3 none 2 := ⟨(kw_m6 (i := 92) (by decide +kernel) (by decide +kernel)), w_Md_spoil, in_Md, by decide +kernel, by decide +kernel, by decide +kernel⟩
theorem v_Md_spoil : Cond.instanceMethod y_Md_spoil ∈ kw_Ts ∧ Cond.selects y_Md_spoil.cls y_Md_spoil y_Md_spoil ∈ kw_Ts := ⟨(kw_m6 (i := 93) (by decide +kernel) (by decide +kernel)), (kw_m6 (i := 94) (by decide +kernel) (by decide +kernel))⟩
theorem mh_Lw_mend_148 : kw_mh "PictureFileLaw" 148 y_Lw_mend method_18_code 4 (some .int) (hs_Lw_mend.map Prod.fst) 3 := ⟨(kw_m5 (i := 125) (by decide +kernel) (by decide +kernel)), w_Lw_mend, in_Lw, by decide +kernel, by decide +kernel, by decide +kernel⟩
theorem s_Lw_mend : Cond.static y_Lw_mend ∈ kw_Ts := (kw_m5 (i := 126) (by decide +kernel) (by decide +kernel))
theorem mi_Lw_150 : kw_mi "PictureFileLaw" 150 y_Md_mend prog_14_method_10_code 3 none 2 := ⟨(kw_m6 (i := 96) (by decide +kernel) (by decide +kernel)), w_Md_mend, in_Md, by decide +kernel, by decide +kernel, by decide +kernel⟩
theorem v_Md_mend : Cond.instanceMethod y_Md_mend ∈ kw_Ts ∧ Cond.selects y_Md_mend.cls y_Md_mend y_Md_mend ∈ kw_Ts := ⟨(kw_m6 (i := 97) (by decide +kernel) (by decide +kernel)), (kw_m6 (i := 98) (by decide +kernel) (by decide +kernel))⟩
theorem nj_Lw_8 : kw_nj "PictureFileLaw" 8 0 := ⟨mmR_0, mmT_0, 9, rfl, rfl, mmI_0, mmY_0, by decide +kernel, (kw_m1 (i := 23) (by decide +kernel) (by decide +kernel)), (kw_m1 (i := 24) (by decide +kernel) (by decide +kernel)), in_PF⟩
theorem li_Lw_75 : Cond.methodLink "PictureFileLaw" 75 y_PF_init ∈ kw_Ts ∨ ∃ host, Cond.methodLinkNest "PictureFileLaw" 75 y_PF_init host ∈ mm_nest := Or.inl (kw_m1 (i := 25) (by decide +kernel) (by decide +kernel))
theorem iv_PF_init : Cond.instanceMethod y_PF_init ∈ kw_Ts := (kw_m1 (i := 26) (by decide +kernel) (by decide +kernel))
theorem m4_PF_init : y_PF_init.cls ≠ "java/lang/invoke/MethodHandle" ∧ y_PF_init.cls ≠ "java/lang/invoke/VarHandle" ∧ (parseMethodDescriptor y_PF_init.desc).map (fun d => d.parameters.length) = some 0 := ⟨by decide +kernel, by decide +kernel, by decide +kernel⟩
theorem nj_Lw_76 : kw_nj "PictureFileLaw" 76 12 := ⟨mmR_12, mmT_12, 57, rfl, rfl, mmI_12, mmY_12, by decide +kernel, (kw_m5 (i := 135) (by decide +kernel) (by decide +kernel)), (kw_m5 (i := 136) (by decide +kernel) (by decide +kernel)), in_Md⟩
theorem li_Lw_78 : Cond.methodLink "PictureFileLaw" 78 y_Md_init ∈ kw_Ts ∨ ∃ host, Cond.methodLinkNest "PictureFileLaw" 78 y_Md_init host ∈ mm_nest := Or.inl (kw_m5 (i := 137) (by decide +kernel) (by decide +kernel))
theorem iv_Md_init : Cond.instanceMethod y_Md_init ∈ kw_Ts := (kw_m5 (i := 138) (by decide +kernel) (by decide +kernel))
theorem m4_Md_init : y_Md_init.cls ≠ "java/lang/invoke/MethodHandle" ∧ y_Md_init.cls ≠ "java/lang/invoke/VarHandle" ∧ (parseMethodDescriptor y_Md_init.desc).map (fun d => d.parameters.length) = some 0 := ⟨by decide +kernel, by decide +kernel, by decide +kernel⟩
theorem ac_long : Cond.arrayClass .long ∈ kw_Ts := (kw_m7 (i := 202) (by decide +kernel) (by decide +kernel))
theorem d_Lw_law_0 : decode code 0 = .ok (.new 8, 3) := by decide +kernel
theorem d_Lw_law_3 : decode code 3 = .ok (.dup, 1) := by decide +kernel
theorem d_Lw_law_4 : decode code 4 = .ok (.invokespecial 75, 3) := by decide +kernel
theorem d_Lw_law_7 : decode code 7 = .ok (.astore_n 1, 1) := by decide +kernel
theorem d_Lw_law_8 : decode code 8 = .ok (.new 76, 3) := by decide +kernel
theorem d_Lw_law_11 : decode code 11 = .ok (.dup, 1) := by decide +kernel
theorem d_Lw_law_12 : decode code 12 = .ok (.invokespecial 78, 3) := by decide +kernel
theorem d_Lw_law_15 : decode code 15 = .ok (.astore_n 2, 1) := by decide +kernel
theorem d_Lw_law_16 : decode code 16 = .ok (.iconst 1, 1) := by decide +kernel
theorem d_Lw_law_17 : decode code 17 = .ok (.newarray .long, 2) := by decide +kernel
theorem d_Lw_law_19 : decode code 19 = .ok (.astore_n 3, 1) := by decide +kernel
theorem d_Lw_law_20 : decode code 20 = .ok (.iconst 0, 1) := by decide +kernel
theorem d_Lw_law_21 : decode code 21 = .ok (.istore 4, 2) := by decide +kernel
theorem d_Lw_law_23 : decode code 23 = .ok (.iload 4, 2) := by decide +kernel
theorem d_Lw_law_25 : decode code 25 = .ok (.aload_n 0, 1) := by decide +kernel
theorem d_Lw_law_26 : decode code 26 = .ok (.arraylength, 1) := by decide +kernel
theorem d_Lw_law_27 : decode code 27 = .ok (.bipush 7, 2) := by decide +kernel
theorem d_Lw_law_29 : decode code 29 = .ok (.isub, 1) := by decide +kernel
theorem d_Lw_law_30 : decode code 30 = .ok (.if_icmp .gt 1240, 3) := by decide +kernel
theorem d_Lw_law_33 : decode code 33 = .ok (.aload_n 0, 1) := by decide +kernel
theorem d_Lw_law_34 : decode code 34 = .ok (.iload 4, 2) := by decide +kernel
theorem d_Lw_law_36 : decode code 36 = .ok (.iaload, 1) := by decide +kernel
theorem d_Lw_law_37 : decode code 37 = .ok (.bipush 31, 2) := by decide +kernel
theorem d_Lw_law_39 : decode code 39 = .ok (.iand, 1) := by decide +kernel
theorem d_Lw_law_40 : decode code 40 = .ok (.tableswitch 1224 0 17 #[88, 192, 228, 241, 254, 354, 410, 490, 562, 660, 740, 808, 888, 944, 1000, 1072, 1128, 1176], 88) := by decide +kernel
theorem d_Lw_law_128 : decode code 128 = .ok (.aload_n 1, 1) := by decide +kernel
theorem d_Lw_law_129 : decode code 129 = .ok (.aload_n 0, 1) := by decide +kernel
theorem d_Lw_law_130 : decode code 130 = .ok (.iload 4, 2) := by decide +kernel
theorem d_Lw_law_132 : decode code 132 = .ok (.iconst 1, 1) := by decide +kernel
theorem d_Lw_law_133 : decode code 133 = .ok (.iadd, 1) := by decide +kernel
theorem d_Lw_law_134 : decode code 134 = .ok (.iaload, 1) := by decide +kernel
theorem d_Lw_law_135 : decode code 135 = .ok (.aload_n 0, 1) := by decide +kernel
theorem d_Lw_law_136 : decode code 136 = .ok (.iload 4, 2) := by decide +kernel
theorem d_Lw_law_138 : decode code 138 = .ok (.iconst 2, 1) := by decide +kernel
theorem d_Lw_law_139 : decode code 139 = .ok (.iadd, 1) := by decide +kernel
theorem d_Lw_law_140 : decode code 140 = .ok (.iaload, 1) := by decide +kernel
theorem d_Lw_law_141 : decode code 141 = .ok (.aload_n 0, 1) := by decide +kernel
theorem d_Lw_law_142 : decode code 142 = .ok (.iload 4, 2) := by decide +kernel
theorem d_Lw_law_144 : decode code 144 = .ok (.iconst 3, 1) := by decide +kernel
theorem d_Lw_law_145 : decode code 145 = .ok (.iadd, 1) := by decide +kernel
theorem d_Lw_law_146 : decode code 146 = .ok (.iaload, 1) := by decide +kernel
theorem d_Lw_law_147 : decode code 147 = .ok (.aload_n 0, 1) := by decide +kernel
theorem d_Lw_law_148 : decode code 148 = .ok (.iload 4, 2) := by decide +kernel
theorem d_Lw_law_150 : decode code 150 = .ok (.iconst 4, 1) := by decide +kernel
theorem d_Lw_law_151 : decode code 151 = .ok (.iadd, 1) := by decide +kernel
theorem d_Lw_law_152 : decode code 152 = .ok (.iaload, 1) := by decide +kernel
theorem d_Lw_law_153 : decode code 153 = .ok (.aload_n 0, 1) := by decide +kernel
theorem d_Lw_law_154 : decode code 154 = .ok (.iload 4, 2) := by decide +kernel
theorem d_Lw_law_156 : decode code 156 = .ok (.iconst 5, 1) := by decide +kernel
theorem d_Lw_law_157 : decode code 157 = .ok (.iadd, 1) := by decide +kernel
theorem d_Lw_law_158 : decode code 158 = .ok (.iaload, 1) := by decide +kernel
theorem d_Lw_law_159 : decode code 159 = .ok (.aload_n 3, 1) := by decide +kernel
theorem d_Lw_law_160 : decode code 160 = .ok (.invokestatic 79, 3) := by decide +kernel
theorem d_Lw_law_163 : decode code 163 = .ok (.istore 5, 2) := by decide +kernel
theorem d_Lw_law_165 : decode code 165 = .ok (.aload_n 2, 1) := by decide +kernel
theorem d_Lw_law_166 : decode code 166 = .ok (.aload_n 0, 1) := by decide +kernel
theorem d_Lw_law_167 : decode code 167 = .ok (.iload 4, 2) := by decide +kernel
theorem d_Lw_law_169 : decode code 169 = .ok (.iconst 1, 1) := by decide +kernel
theorem d_Lw_law_170 : decode code 170 = .ok (.iadd, 1) := by decide +kernel
theorem d_Lw_law_171 : decode code 171 = .ok (.iaload, 1) := by decide +kernel
theorem d_Lw_law_172 : decode code 172 = .ok (.aload_n 0, 1) := by decide +kernel
theorem d_Lw_law_173 : decode code 173 = .ok (.iload 4, 2) := by decide +kernel
theorem d_Lw_law_175 : decode code 175 = .ok (.iconst 2, 1) := by decide +kernel
theorem d_Lw_law_176 : decode code 176 = .ok (.iadd, 1) := by decide +kernel
theorem d_Lw_law_177 : decode code 177 = .ok (.iaload, 1) := by decide +kernel
theorem d_Lw_law_178 : decode code 178 = .ok (.aload_n 0, 1) := by decide +kernel
theorem d_Lw_law_179 : decode code 179 = .ok (.iload 4, 2) := by decide +kernel
theorem d_Lw_law_181 : decode code 181 = .ok (.iconst 3, 1) := by decide +kernel
theorem d_Lw_law_182 : decode code 182 = .ok (.iadd, 1) := by decide +kernel
theorem d_Lw_law_183 : decode code 183 = .ok (.iaload, 1) := by decide +kernel
theorem d_Lw_law_184 : decode code 184 = .ok (.aload_n 0, 1) := by decide +kernel
theorem d_Lw_law_185 : decode code 185 = .ok (.iload 4, 2) := by decide +kernel
theorem d_Lw_law_187 : decode code 187 = .ok (.iconst 4, 1) := by decide +kernel
theorem d_Lw_law_188 : decode code 188 = .ok (.iadd, 1) := by decide +kernel
theorem d_Lw_law_189 : decode code 189 = .ok (.iaload, 1) := by decide +kernel
theorem d_Lw_law_190 : decode code 190 = .ok (.aload_n 0, 1) := by decide +kernel
theorem d_Lw_law_191 : decode code 191 = .ok (.iload 4, 2) := by decide +kernel
theorem d_Lw_law_193 : decode code 193 = .ok (.iconst 5, 1) := by decide +kernel
theorem d_Lw_law_194 : decode code 194 = .ok (.iadd, 1) := by decide +kernel
theorem d_Lw_law_195 : decode code 195 = .ok (.iaload, 1) := by decide +kernel
theorem d_Lw_law_196 : decode code 196 = .ok (.invokevirtual 84, 3) := by decide +kernel
theorem d_Lw_law_199 : decode code 199 = .ok (.istore 6, 2) := by decide +kernel
theorem d_Lw_law_201 : decode code 201 = .ok (.aload_n 2, 1) := by decide +kernel
theorem d_Lw_law_202 : decode code 202 = .ok (.invokevirtual 85, 3) := by decide +kernel
theorem d_Lw_law_205 : decode code 205 = .ok (.iload 5, 2) := by decide +kernel
theorem d_Lw_law_207 : decode code 207 = .ok (.if_icmp .eq 5, 3) := by decide +kernel
theorem d_Lw_law_210 : decode code 210 = .ok (.iconst 0, 1) := by decide +kernel
theorem d_Lw_law_211 : decode code 211 = .ok (.ireturn, 1) := by decide +kernel
theorem d_Lw_law_212 : decode code 212 = .ok (.iload 5, 2) := by decide +kernel
theorem d_Lw_law_214 : decode code 214 = .ok (.ifCond .ne 15, 3) := by decide +kernel
theorem d_Lw_law_217 : decode code 217 = .ok (.aload_n 3, 1) := by decide +kernel
theorem d_Lw_law_218 : decode code 218 = .ok (.iconst 0, 1) := by decide +kernel
theorem d_Lw_law_219 : decode code 219 = .ok (.laload, 1) := by decide +kernel
theorem d_Lw_law_220 : decode code 220 = .ok (.iload 6, 2) := by decide +kernel
theorem d_Lw_law_222 : decode code 222 = .ok (.i2l, 1) := by decide +kernel
theorem d_Lw_law_223 : decode code 223 = .ok (.lcmp, 1) := by decide +kernel
theorem d_Lw_law_224 : decode code 224 = .ok (.ifCond .eq 5, 3) := by decide +kernel
theorem d_Lw_law_227 : decode code 227 = .ok (.iconst 0, 1) := by decide +kernel
theorem d_Lw_law_228 : decode code 228 = .ok (.ireturn, 1) := by decide +kernel
theorem d_Lw_law_229 : decode code 229 = .ok (.goto 1035, 3) := by decide +kernel
theorem d_Lw_law_232 : decode code 232 = .ok (.aload_n 1, 1) := by decide +kernel
theorem d_Lw_law_233 : decode code 233 = .ok (.aload_n 0, 1) := by decide +kernel
theorem d_Lw_law_234 : decode code 234 = .ok (.iload 4, 2) := by decide +kernel
theorem d_Lw_law_236 : decode code 236 = .ok (.iconst 1, 1) := by decide +kernel
theorem d_Lw_law_237 : decode code 237 = .ok (.iadd, 1) := by decide +kernel
theorem d_Lw_law_238 : decode code 238 = .ok (.iaload, 1) := by decide +kernel
theorem d_Lw_law_239 : decode code 239 = .ok (.invokestatic 89, 3) := by decide +kernel
theorem d_Lw_law_242 : decode code 242 = .ok (.istore 5, 2) := by decide +kernel
theorem d_Lw_law_244 : decode code 244 = .ok (.aload_n 2, 1) := by decide +kernel
theorem d_Lw_law_245 : decode code 245 = .ok (.aload_n 0, 1) := by decide +kernel
theorem d_Lw_law_246 : decode code 246 = .ok (.iload 4, 2) := by decide +kernel
theorem d_Lw_law_248 : decode code 248 = .ok (.iconst 1, 1) := by decide +kernel
theorem d_Lw_law_249 : decode code 249 = .ok (.iadd, 1) := by decide +kernel
theorem d_Lw_law_250 : decode code 250 = .ok (.iaload, 1) := by decide +kernel
theorem d_Lw_law_251 : decode code 251 = .ok (.invokevirtual 92, 3) := by decide +kernel
theorem d_Lw_law_254 : decode code 254 = .ok (.aload_n 2, 1) := by decide +kernel
theorem d_Lw_law_255 : decode code 255 = .ok (.invokevirtual 85, 3) := by decide +kernel
theorem d_Lw_law_258 : decode code 258 = .ok (.iload 5, 2) := by decide +kernel
theorem d_Lw_law_260 : decode code 260 = .ok (.if_icmp .eq 5, 3) := by decide +kernel
theorem d_Lw_law_263 : decode code 263 = .ok (.iconst 0, 1) := by decide +kernel
theorem d_Lw_law_264 : decode code 264 = .ok (.ireturn, 1) := by decide +kernel
theorem d_Lw_law_265 : decode code 265 = .ok (.goto 999, 3) := by decide +kernel
theorem d_Lw_law_268 : decode code 268 = .ok (.aload_n 1, 1) := by decide +kernel
theorem d_Lw_law_269 : decode code 269 = .ok (.invokevirtual 93, 3) := by decide +kernel
theorem d_Lw_law_272 : decode code 272 = .ok (.aload_n 2, 1) := by decide +kernel
theorem d_Lw_law_273 : decode code 273 = .ok (.invokevirtual 96, 3) := by decide +kernel
theorem d_Lw_law_276 : decode code 276 = .ok (.if_icmp .eq 988, 3) := by decide +kernel
theorem d_Lw_law_279 : decode code 279 = .ok (.iconst 0, 1) := by decide +kernel
theorem d_Lw_law_280 : decode code 280 = .ok (.ireturn, 1) := by decide +kernel
theorem d_Lw_law_281 : decode code 281 = .ok (.aload_n 1, 1) := by decide +kernel
theorem d_Lw_law_282 : decode code 282 = .ok (.invokevirtual 97, 3) := by decide +kernel
theorem d_Lw_law_285 : decode code 285 = .ok (.aload_n 2, 1) := by decide +kernel
theorem d_Lw_law_286 : decode code 286 = .ok (.invokevirtual 100, 3) := by decide +kernel
theorem d_Lw_law_289 : decode code 289 = .ok (.if_icmp .eq 975, 3) := by decide +kernel
theorem d_Lw_law_292 : decode code 292 = .ok (.iconst 0, 1) := by decide +kernel
theorem d_Lw_law_293 : decode code 293 = .ok (.ireturn, 1) := by decide +kernel
theorem d_Lw_law_294 : decode code 294 = .ok (.aload_n 1, 1) := by decide +kernel
theorem d_Lw_law_295 : decode code 295 = .ok (.aload_n 0, 1) := by decide +kernel
theorem d_Lw_law_296 : decode code 296 = .ok (.iload 4, 2) := by decide +kernel
theorem d_Lw_law_298 : decode code 298 = .ok (.iconst 1, 1) := by decide +kernel
theorem d_Lw_law_299 : decode code 299 = .ok (.iadd, 1) := by decide +kernel
theorem d_Lw_law_300 : decode code 300 = .ok (.iaload, 1) := by decide +kernel
theorem d_Lw_law_301 : decode code 301 = .ok (.aload_n 0, 1) := by decide +kernel
theorem d_Lw_law_302 : decode code 302 = .ok (.iload 4, 2) := by decide +kernel
theorem d_Lw_law_304 : decode code 304 = .ok (.iconst 2, 1) := by decide +kernel
theorem d_Lw_law_305 : decode code 305 = .ok (.iadd, 1) := by decide +kernel
theorem d_Lw_law_306 : decode code 306 = .ok (.iaload, 1) := by decide +kernel
theorem d_Lw_law_307 : decode code 307 = .ok (.aload_n 0, 1) := by decide +kernel
theorem d_Lw_law_308 : decode code 308 = .ok (.iload 4, 2) := by decide +kernel
theorem d_Lw_law_310 : decode code 310 = .ok (.iconst 3, 1) := by decide +kernel
theorem d_Lw_law_311 : decode code 311 = .ok (.iadd, 1) := by decide +kernel
theorem d_Lw_law_312 : decode code 312 = .ok (.iaload, 1) := by decide +kernel
theorem d_Lw_law_313 : decode code 313 = .ok (.aload_n 0, 1) := by decide +kernel
theorem d_Lw_law_314 : decode code 314 = .ok (.iload 4, 2) := by decide +kernel
theorem d_Lw_law_316 : decode code 316 = .ok (.iconst 4, 1) := by decide +kernel
theorem d_Lw_law_317 : decode code 317 = .ok (.iadd, 1) := by decide +kernel
theorem d_Lw_law_318 : decode code 318 = .ok (.iaload, 1) := by decide +kernel
theorem d_Lw_law_319 : decode code 319 = .ok (.aload_n 0, 1) := by decide +kernel
theorem d_Lw_law_320 : decode code 320 = .ok (.iload 4, 2) := by decide +kernel
theorem d_Lw_law_322 : decode code 322 = .ok (.iconst 5, 1) := by decide +kernel
theorem d_Lw_law_323 : decode code 323 = .ok (.iadd, 1) := by decide +kernel
theorem d_Lw_law_324 : decode code 324 = .ok (.iaload, 1) := by decide +kernel
theorem d_Lw_law_325 : decode code 325 = .ok (.ifCond .eq 7, 3) := by decide +kernel
theorem d_Lw_law_328 : decode code 328 = .ok (.iconst 1, 1) := by decide +kernel
theorem d_Lw_law_329 : decode code 329 = .ok (.goto 4, 3) := by decide +kernel
theorem d_Lw_law_332 : decode code 332 = .ok (.iconst 0, 1) := by decide +kernel
theorem d_Lw_law_333 : decode code 333 = .ok (.invokestatic 101, 3) := by decide +kernel
theorem d_Lw_law_336 : decode code 336 = .ok (.istore 5, 2) := by decide +kernel
theorem d_Lw_law_338 : decode code 338 = .ok (.aload_n 2, 1) := by decide +kernel
theorem d_Lw_law_339 : decode code 339 = .ok (.aload_n 0, 1) := by decide +kernel
theorem d_Lw_law_340 : decode code 340 = .ok (.iload 4, 2) := by decide +kernel
theorem d_Lw_law_342 : decode code 342 = .ok (.iconst 1, 1) := by decide +kernel
theorem d_Lw_law_343 : decode code 343 = .ok (.iadd, 1) := by decide +kernel
theorem d_Lw_law_344 : decode code 344 = .ok (.iaload, 1) := by decide +kernel
theorem d_Lw_law_345 : decode code 345 = .ok (.aload_n 0, 1) := by decide +kernel
theorem d_Lw_law_346 : decode code 346 = .ok (.iload 4, 2) := by decide +kernel
theorem d_Lw_law_348 : decode code 348 = .ok (.iconst 2, 1) := by decide +kernel
theorem d_Lw_law_349 : decode code 349 = .ok (.iadd, 1) := by decide +kernel
theorem d_Lw_law_350 : decode code 350 = .ok (.iaload, 1) := by decide +kernel
theorem d_Lw_law_351 : decode code 351 = .ok (.aload_n 0, 1) := by decide +kernel
theorem d_Lw_law_352 : decode code 352 = .ok (.iload 4, 2) := by decide +kernel
theorem d_Lw_law_354 : decode code 354 = .ok (.iconst 3, 1) := by decide +kernel
theorem d_Lw_law_355 : decode code 355 = .ok (.iadd, 1) := by decide +kernel
theorem d_Lw_law_356 : decode code 356 = .ok (.iaload, 1) := by decide +kernel
theorem d_Lw_law_357 : decode code 357 = .ok (.aload_n 0, 1) := by decide +kernel
theorem d_Lw_law_358 : decode code 358 = .ok (.iload 4, 2) := by decide +kernel
theorem d_Lw_law_360 : decode code 360 = .ok (.iconst 4, 1) := by decide +kernel
theorem d_Lw_law_361 : decode code 361 = .ok (.iadd, 1) := by decide +kernel
theorem d_Lw_law_362 : decode code 362 = .ok (.iaload, 1) := by decide +kernel
theorem d_Lw_law_363 : decode code 363 = .ok (.aload_n 0, 1) := by decide +kernel
theorem d_Lw_law_364 : decode code 364 = .ok (.iload 4, 2) := by decide +kernel
theorem d_Lw_law_366 : decode code 366 = .ok (.iconst 5, 1) := by decide +kernel
theorem d_Lw_law_367 : decode code 367 = .ok (.iadd, 1) := by decide +kernel
theorem d_Lw_law_368 : decode code 368 = .ok (.iaload, 1) := by decide +kernel
theorem d_Lw_law_369 : decode code 369 = .ok (.ifCond .eq 7, 3) := by decide +kernel
theorem d_Lw_law_372 : decode code 372 = .ok (.iconst 1, 1) := by decide +kernel
theorem d_Lw_law_373 : decode code 373 = .ok (.goto 4, 3) := by decide +kernel
theorem d_Lw_law_376 : decode code 376 = .ok (.iconst 0, 1) := by decide +kernel
theorem d_Lw_law_377 : decode code 377 = .ok (.invokevirtual 104, 3) := by decide +kernel
theorem d_Lw_law_380 : decode code 380 = .ok (.aload_n 2, 1) := by decide +kernel
theorem d_Lw_law_381 : decode code 381 = .ok (.invokevirtual 85, 3) := by decide +kernel
theorem d_Lw_law_384 : decode code 384 = .ok (.iload 5, 2) := by decide +kernel
theorem d_Lw_law_386 : decode code 386 = .ok (.if_icmp .eq 5, 3) := by decide +kernel
theorem d_Lw_law_389 : decode code 389 = .ok (.iconst 0, 1) := by decide +kernel
theorem d_Lw_law_390 : decode code 390 = .ok (.ireturn, 1) := by decide +kernel
theorem d_Lw_law_391 : decode code 391 = .ok (.goto 873, 3) := by decide +kernel
theorem d_Lw_law_394 : decode code 394 = .ok (.aload_n 1, 1) := by decide +kernel
theorem d_Lw_law_395 : decode code 395 = .ok (.aload_n 0, 1) := by decide +kernel
theorem d_Lw_law_396 : decode code 396 = .ok (.iload 4, 2) := by decide +kernel
theorem d_Lw_law_398 : decode code 398 = .ok (.iconst 1, 1) := by decide +kernel
theorem d_Lw_law_399 : decode code 399 = .ok (.iadd, 1) := by decide +kernel
theorem d_Lw_law_400 : decode code 400 = .ok (.iaload, 1) := by decide +kernel
theorem d_Lw_law_401 : decode code 401 = .ok (.aload_n 3, 1) := by decide +kernel
theorem d_Lw_law_402 : decode code 402 = .ok (.invokestatic 105, 3) := by decide +kernel
theorem d_Lw_law_405 : decode code 405 = .ok (.istore 5, 2) := by decide +kernel
theorem d_Lw_law_407 : decode code 407 = .ok (.aload_n 2, 1) := by decide +kernel
theorem d_Lw_law_408 : decode code 408 = .ok (.aload_n 0, 1) := by decide +kernel
theorem d_Lw_law_409 : decode code 409 = .ok (.iload 4, 2) := by decide +kernel
theorem d_Lw_law_411 : decode code 411 = .ok (.iconst 1, 1) := by decide +kernel
theorem d_Lw_law_412 : decode code 412 = .ok (.iadd, 1) := by decide +kernel
theorem d_Lw_law_413 : decode code 413 = .ok (.iaload, 1) := by decide +kernel
theorem d_Lw_law_414 : decode code 414 = .ok (.invokevirtual 108, 3) := by decide +kernel
theorem d_Lw_law_417 : decode code 417 = .ok (.istore 6, 2) := by decide +kernel
theorem d_Lw_law_419 : decode code 419 = .ok (.aload_n 2, 1) := by decide +kernel
theorem d_Lw_law_420 : decode code 420 = .ok (.invokevirtual 85, 3) := by decide +kernel
theorem d_Lw_law_423 : decode code 423 = .ok (.iload 5, 2) := by decide +kernel
theorem d_Lw_law_425 : decode code 425 = .ok (.if_icmp .eq 5, 3) := by decide +kernel
theorem d_Lw_law_428 : decode code 428 = .ok (.iconst 0, 1) := by decide +kernel
theorem d_Lw_law_429 : decode code 429 = .ok (.ireturn, 1) := by decide +kernel
theorem d_Lw_law_430 : decode code 430 = .ok (.iload 5, 2) := by decide +kernel
theorem d_Lw_law_432 : decode code 432 = .ok (.ifCond .ne 15, 3) := by decide +kernel
theorem d_Lw_law_435 : decode code 435 = .ok (.aload_n 3, 1) := by decide +kernel
theorem d_Lw_law_436 : decode code 436 = .ok (.iconst 0, 1) := by decide +kernel
theorem d_Lw_law_437 : decode code 437 = .ok (.laload, 1) := by decide +kernel
theorem d_Lw_law_438 : decode code 438 = .ok (.iload 6, 2) := by decide +kernel
theorem d_Lw_law_440 : decode code 440 = .ok (.i2l, 1) := by decide +kernel
theorem d_Lw_law_441 : decode code 441 = .ok (.lcmp, 1) := by decide +kernel
theorem d_Lw_law_442 : decode code 442 = .ok (.ifCond .eq 5, 3) := by decide +kernel
theorem d_Lw_law_445 : decode code 445 = .ok (.iconst 0, 1) := by decide +kernel
theorem d_Lw_law_446 : decode code 446 = .ok (.ireturn, 1) := by decide +kernel
theorem d_Lw_law_447 : decode code 447 = .ok (.goto 817, 3) := by decide +kernel
theorem d_Lw_law_450 : decode code 450 = .ok (.aload_n 1, 1) := by decide +kernel
theorem d_Lw_law_451 : decode code 451 = .ok (.aload_n 0, 1) := by decide +kernel
theorem d_Lw_law_452 : decode code 452 = .ok (.iload 4, 2) := by decide +kernel
theorem d_Lw_law_454 : decode code 454 = .ok (.iconst 1, 1) := by decide +kernel
theorem d_Lw_law_455 : decode code 455 = .ok (.iadd, 1) := by decide +kernel
theorem d_Lw_law_456 : decode code 456 = .ok (.iaload, 1) := by decide +kernel
theorem d_Lw_law_457 : decode code 457 = .ok (.aload_n 0, 1) := by decide +kernel
theorem d_Lw_law_458 : decode code 458 = .ok (.iload 4, 2) := by decide +kernel
theorem d_Lw_law_460 : decode code 460 = .ok (.iconst 2, 1) := by decide +kernel
theorem d_Lw_law_461 : decode code 461 = .ok (.iadd, 1) := by decide +kernel
theorem d_Lw_law_462 : decode code 462 = .ok (.iaload, 1) := by decide +kernel
theorem d_Lw_law_463 : decode code 463 = .ok (.aload_n 0, 1) := by decide +kernel
theorem d_Lw_law_464 : decode code 464 = .ok (.iload 4, 2) := by decide +kernel
theorem d_Lw_law_466 : decode code 466 = .ok (.iconst 3, 1) := by decide +kernel
theorem d_Lw_law_467 : decode code 467 = .ok (.iadd, 1) := by decide +kernel
theorem d_Lw_law_468 : decode code 468 = .ok (.iaload, 1) := by decide +kernel
theorem d_Lw_law_469 : decode code 469 = .ok (.aload_n 3, 1) := by decide +kernel
theorem d_Lw_law_470 : decode code 470 = .ok (.invokestatic 109, 3) := by decide +kernel
theorem d_Lw_law_473 : decode code 473 = .ok (.istore 5, 2) := by decide +kernel
theorem d_Lw_law_475 : decode code 475 = .ok (.aload_n 2, 1) := by decide +kernel
theorem d_Lw_law_476 : decode code 476 = .ok (.aload_n 0, 1) := by decide +kernel
theorem d_Lw_law_477 : decode code 477 = .ok (.iload 4, 2) := by decide +kernel
theorem d_Lw_law_479 : decode code 479 = .ok (.iconst 1, 1) := by decide +kernel
theorem d_Lw_law_480 : decode code 480 = .ok (.iadd, 1) := by decide +kernel
theorem d_Lw_law_481 : decode code 481 = .ok (.iaload, 1) := by decide +kernel
theorem d_Lw_law_482 : decode code 482 = .ok (.aload_n 0, 1) := by decide +kernel
theorem d_Lw_law_483 : decode code 483 = .ok (.iload 4, 2) := by decide +kernel
theorem d_Lw_law_485 : decode code 485 = .ok (.iconst 2, 1) := by decide +kernel
theorem d_Lw_law_486 : decode code 486 = .ok (.iadd, 1) := by decide +kernel
theorem d_Lw_law_487 : decode code 487 = .ok (.iaload, 1) := by decide +kernel
theorem d_Lw_law_488 : decode code 488 = .ok (.aload_n 0, 1) := by decide +kernel
theorem d_Lw_law_489 : decode code 489 = .ok (.iload 4, 2) := by decide +kernel
theorem d_Lw_law_491 : decode code 491 = .ok (.iconst 3, 1) := by decide +kernel
theorem d_Lw_law_492 : decode code 492 = .ok (.iadd, 1) := by decide +kernel
theorem d_Lw_law_493 : decode code 493 = .ok (.iaload, 1) := by decide +kernel
theorem d_Lw_law_494 : decode code 494 = .ok (.invokevirtual 112, 3) := by decide +kernel
theorem d_Lw_law_497 : decode code 497 = .ok (.istore 6, 2) := by decide +kernel
theorem d_Lw_law_499 : decode code 499 = .ok (.aload_n 2, 1) := by decide +kernel
theorem d_Lw_law_500 : decode code 500 = .ok (.invokevirtual 85, 3) := by decide +kernel
theorem d_Lw_law_503 : decode code 503 = .ok (.iload 5, 2) := by decide +kernel
theorem d_Lw_law_505 : decode code 505 = .ok (.if_icmp .eq 5, 3) := by decide +kernel
theorem d_Lw_law_508 : decode code 508 = .ok (.iconst 0, 1) := by decide +kernel
theorem d_Lw_law_509 : decode code 509 = .ok (.ireturn, 1) := by decide +kernel
theorem d_Lw_law_510 : decode code 510 = .ok (.iload 5, 2) := by decide +kernel
theorem d_Lw_law_512 : decode code 512 = .ok (.ifCond .ne 15, 3) := by decide +kernel
theorem d_Lw_law_515 : decode code 515 = .ok (.aload_n 3, 1) := by decide +kernel
theorem d_Lw_law_516 : decode code 516 = .ok (.iconst 0, 1) := by decide +kernel
theorem d_Lw_law_517 : decode code 517 = .ok (.laload, 1) := by decide +kernel
theorem d_Lw_law_518 : decode code 518 = .ok (.iload 6, 2) := by decide +kernel
theorem d_Lw_law_520 : decode code 520 = .ok (.i2l, 1) := by decide +kernel
theorem d_Lw_law_521 : decode code 521 = .ok (.lcmp, 1) := by decide +kernel
theorem d_Lw_law_522 : decode code 522 = .ok (.ifCond .eq 5, 3) := by decide +kernel
theorem d_Lw_law_525 : decode code 525 = .ok (.iconst 0, 1) := by decide +kernel
theorem d_Lw_law_526 : decode code 526 = .ok (.ireturn, 1) := by decide +kernel
theorem d_Lw_law_527 : decode code 527 = .ok (.goto 737, 3) := by decide +kernel
theorem d_Lw_law_530 : decode code 530 = .ok (.aload_n 1, 1) := by decide +kernel
theorem d_Lw_law_531 : decode code 531 = .ok (.aload_n 0, 1) := by decide +kernel
theorem d_Lw_law_532 : decode code 532 = .ok (.iload 4, 2) := by decide +kernel
theorem d_Lw_law_534 : decode code 534 = .ok (.iconst 1, 1) := by decide +kernel
theorem d_Lw_law_535 : decode code 535 = .ok (.iadd, 1) := by decide +kernel
theorem d_Lw_law_536 : decode code 536 = .ok (.iaload, 1) := by decide +kernel
theorem d_Lw_law_537 : decode code 537 = .ok (.aload_n 0, 1) := by decide +kernel
theorem d_Lw_law_538 : decode code 538 = .ok (.iload 4, 2) := by decide +kernel
theorem d_Lw_law_540 : decode code 540 = .ok (.iconst 2, 1) := by decide +kernel
theorem d_Lw_law_541 : decode code 541 = .ok (.iadd, 1) := by decide +kernel
theorem d_Lw_law_542 : decode code 542 = .ok (.iaload, 1) := by decide +kernel
theorem d_Lw_law_543 : decode code 543 = .ok (.aload_n 0, 1) := by decide +kernel
theorem d_Lw_law_544 : decode code 544 = .ok (.iload 4, 2) := by decide +kernel
theorem d_Lw_law_546 : decode code 546 = .ok (.iconst 3, 1) := by decide +kernel
theorem d_Lw_law_547 : decode code 547 = .ok (.iadd, 1) := by decide +kernel
theorem d_Lw_law_548 : decode code 548 = .ok (.iaload, 1) := by decide +kernel
theorem d_Lw_law_549 : decode code 549 = .ok (.aload_n 0, 1) := by decide +kernel
theorem d_Lw_law_550 : decode code 550 = .ok (.iload 4, 2) := by decide +kernel
theorem d_Lw_law_552 : decode code 552 = .ok (.iconst 4, 1) := by decide +kernel
theorem d_Lw_law_553 : decode code 553 = .ok (.iadd, 1) := by decide +kernel
theorem d_Lw_law_554 : decode code 554 = .ok (.iaload, 1) := by decide +kernel
theorem d_Lw_law_555 : decode code 555 = .ok (.invokestatic 113, 3) := by decide +kernel
theorem d_Lw_law_558 : decode code 558 = .ok (.istore 5, 2) := by decide +kernel
theorem d_Lw_law_560 : decode code 560 = .ok (.aload_n 2, 1) := by decide +kernel
theorem d_Lw_law_561 : decode code 561 = .ok (.aload_n 0, 1) := by decide +kernel
theorem d_Lw_law_562 : decode code 562 = .ok (.iload 4, 2) := by decide +kernel
theorem d_Lw_law_564 : decode code 564 = .ok (.iconst 1, 1) := by decide +kernel
theorem d_Lw_law_565 : decode code 565 = .ok (.iadd, 1) := by decide +kernel
theorem d_Lw_law_566 : decode code 566 = .ok (.iaload, 1) := by decide +kernel
theorem d_Lw_law_567 : decode code 567 = .ok (.aload_n 0, 1) := by decide +kernel
theorem d_Lw_law_568 : decode code 568 = .ok (.iload 4, 2) := by decide +kernel
theorem d_Lw_law_570 : decode code 570 = .ok (.iconst 2, 1) := by decide +kernel
theorem d_Lw_law_571 : decode code 571 = .ok (.iadd, 1) := by decide +kernel
theorem d_Lw_law_572 : decode code 572 = .ok (.iaload, 1) := by decide +kernel
theorem d_Lw_law_573 : decode code 573 = .ok (.aload_n 0, 1) := by decide +kernel
theorem d_Lw_law_574 : decode code 574 = .ok (.iload 4, 2) := by decide +kernel
theorem d_Lw_law_576 : decode code 576 = .ok (.iconst 3, 1) := by decide +kernel
theorem d_Lw_law_577 : decode code 577 = .ok (.iadd, 1) := by decide +kernel
theorem d_Lw_law_578 : decode code 578 = .ok (.iaload, 1) := by decide +kernel
theorem d_Lw_law_579 : decode code 579 = .ok (.aload_n 0, 1) := by decide +kernel
theorem d_Lw_law_580 : decode code 580 = .ok (.iload 4, 2) := by decide +kernel
theorem d_Lw_law_582 : decode code 582 = .ok (.iconst 4, 1) := by decide +kernel
theorem d_Lw_law_583 : decode code 583 = .ok (.iadd, 1) := by decide +kernel
theorem d_Lw_law_584 : decode code 584 = .ok (.iaload, 1) := by decide +kernel
theorem d_Lw_law_585 : decode code 585 = .ok (.invokevirtual 116, 3) := by decide +kernel
theorem d_Lw_law_588 : decode code 588 = .ok (.aload_n 2, 1) := by decide +kernel
theorem d_Lw_law_589 : decode code 589 = .ok (.invokevirtual 85, 3) := by decide +kernel
theorem d_Lw_law_592 : decode code 592 = .ok (.iload 5, 2) := by decide +kernel
theorem d_Lw_law_594 : decode code 594 = .ok (.if_icmp .eq 5, 3) := by decide +kernel
theorem d_Lw_law_597 : decode code 597 = .ok (.iconst 0, 1) := by decide +kernel
theorem d_Lw_law_598 : decode code 598 = .ok (.ireturn, 1) := by decide +kernel
theorem d_Lw_law_599 : decode code 599 = .ok (.goto 665, 3) := by decide +kernel
theorem d_Lw_law_602 : decode code 602 = .ok (.aload_n 1, 1) := by decide +kernel
theorem d_Lw_law_603 : decode code 603 = .ok (.aload_n 0, 1) := by decide +kernel
theorem d_Lw_law_604 : decode code 604 = .ok (.iload 4, 2) := by decide +kernel
theorem d_Lw_law_606 : decode code 606 = .ok (.iconst 1, 1) := by decide +kernel
theorem d_Lw_law_607 : decode code 607 = .ok (.iadd, 1) := by decide +kernel
theorem d_Lw_law_608 : decode code 608 = .ok (.iaload, 1) := by decide +kernel
theorem d_Lw_law_609 : decode code 609 = .ok (.aload_n 0, 1) := by decide +kernel
theorem d_Lw_law_610 : decode code 610 = .ok (.iload 4, 2) := by decide +kernel
theorem d_Lw_law_612 : decode code 612 = .ok (.iconst 2, 1) := by decide +kernel
theorem d_Lw_law_613 : decode code 613 = .ok (.iadd, 1) := by decide +kernel
theorem d_Lw_law_614 : decode code 614 = .ok (.iaload, 1) := by decide +kernel
theorem d_Lw_law_615 : decode code 615 = .ok (.aload_n 0, 1) := by decide +kernel
theorem d_Lw_law_616 : decode code 616 = .ok (.iload 4, 2) := by decide +kernel
theorem d_Lw_law_618 : decode code 618 = .ok (.iconst 3, 1) := by decide +kernel
theorem d_Lw_law_619 : decode code 619 = .ok (.iadd, 1) := by decide +kernel
theorem d_Lw_law_620 : decode code 620 = .ok (.iaload, 1) := by decide +kernel
theorem d_Lw_law_621 : decode code 621 = .ok (.aload_n 0, 1) := by decide +kernel
theorem d_Lw_law_622 : decode code 622 = .ok (.iload 4, 2) := by decide +kernel
theorem d_Lw_law_624 : decode code 624 = .ok (.iconst 4, 1) := by decide +kernel
theorem d_Lw_law_625 : decode code 625 = .ok (.iadd, 1) := by decide +kernel
theorem d_Lw_law_626 : decode code 626 = .ok (.iaload, 1) := by decide +kernel
theorem d_Lw_law_627 : decode code 627 = .ok (.aload_n 0, 1) := by decide +kernel
theorem d_Lw_law_628 : decode code 628 = .ok (.iload 4, 2) := by decide +kernel
theorem d_Lw_law_630 : decode code 630 = .ok (.iconst 5, 1) := by decide +kernel
theorem d_Lw_law_631 : decode code 631 = .ok (.iadd, 1) := by decide +kernel
theorem d_Lw_law_632 : decode code 632 = .ok (.iaload, 1) := by decide +kernel
theorem d_Lw_law_633 : decode code 633 = .ok (.aload_n 0, 1) := by decide +kernel
theorem d_Lw_law_634 : decode code 634 = .ok (.iload 4, 2) := by decide +kernel
theorem d_Lw_law_636 : decode code 636 = .ok (.bipush 6, 2) := by decide +kernel
theorem d_Lw_law_638 : decode code 638 = .ok (.iadd, 1) := by decide +kernel
theorem d_Lw_law_639 : decode code 639 = .ok (.iaload, 1) := by decide +kernel
theorem d_Lw_law_640 : decode code 640 = .ok (.invokestatic 117, 3) := by decide +kernel
theorem d_Lw_law_643 : decode code 643 = .ok (.istore 5, 2) := by decide +kernel
theorem d_Lw_law_645 : decode code 645 = .ok (.aload_n 2, 1) := by decide +kernel
theorem d_Lw_law_646 : decode code 646 = .ok (.aload_n 0, 1) := by decide +kernel
theorem d_Lw_law_647 : decode code 647 = .ok (.iload 4, 2) := by decide +kernel
theorem d_Lw_law_649 : decode code 649 = .ok (.iconst 1, 1) := by decide +kernel
theorem d_Lw_law_650 : decode code 650 = .ok (.iadd, 1) := by decide +kernel
theorem d_Lw_law_651 : decode code 651 = .ok (.iaload, 1) := by decide +kernel
theorem d_Lw_law_652 : decode code 652 = .ok (.aload_n 0, 1) := by decide +kernel
theorem d_Lw_law_653 : decode code 653 = .ok (.iload 4, 2) := by decide +kernel
theorem d_Lw_law_655 : decode code 655 = .ok (.iconst 2, 1) := by decide +kernel
theorem d_Lw_law_656 : decode code 656 = .ok (.iadd, 1) := by decide +kernel
theorem d_Lw_law_657 : decode code 657 = .ok (.iaload, 1) := by decide +kernel
theorem d_Lw_law_658 : decode code 658 = .ok (.aload_n 0, 1) := by decide +kernel
theorem d_Lw_law_659 : decode code 659 = .ok (.iload 4, 2) := by decide +kernel
theorem d_Lw_law_661 : decode code 661 = .ok (.iconst 3, 1) := by decide +kernel
theorem d_Lw_law_662 : decode code 662 = .ok (.iadd, 1) := by decide +kernel
theorem d_Lw_law_663 : decode code 663 = .ok (.iaload, 1) := by decide +kernel
theorem d_Lw_law_664 : decode code 664 = .ok (.aload_n 0, 1) := by decide +kernel
theorem d_Lw_law_665 : decode code 665 = .ok (.iload 4, 2) := by decide +kernel
theorem d_Lw_law_667 : decode code 667 = .ok (.iconst 4, 1) := by decide +kernel
theorem d_Lw_law_668 : decode code 668 = .ok (.iadd, 1) := by decide +kernel
theorem d_Lw_law_669 : decode code 669 = .ok (.iaload, 1) := by decide +kernel
theorem d_Lw_law_670 : decode code 670 = .ok (.aload_n 0, 1) := by decide +kernel
theorem d_Lw_law_671 : decode code 671 = .ok (.iload 4, 2) := by decide +kernel
theorem d_Lw_law_673 : decode code 673 = .ok (.iconst 5, 1) := by decide +kernel
theorem d_Lw_law_674 : decode code 674 = .ok (.iadd, 1) := by decide +kernel
theorem d_Lw_law_675 : decode code 675 = .ok (.iaload, 1) := by decide +kernel
theorem d_Lw_law_676 : decode code 676 = .ok (.aload_n 0, 1) := by decide +kernel
theorem d_Lw_law_677 : decode code 677 = .ok (.iload 4, 2) := by decide +kernel
theorem d_Lw_law_679 : decode code 679 = .ok (.bipush 6, 2) := by decide +kernel
theorem d_Lw_law_681 : decode code 681 = .ok (.iadd, 1) := by decide +kernel
theorem d_Lw_law_682 : decode code 682 = .ok (.iaload, 1) := by decide +kernel
theorem d_Lw_law_683 : decode code 683 = .ok (.invokevirtual 120, 3) := by decide +kernel
theorem d_Lw_law_686 : decode code 686 = .ok (.aload_n 2, 1) := by decide +kernel
theorem d_Lw_law_687 : decode code 687 = .ok (.invokevirtual 85, 3) := by decide +kernel
theorem d_Lw_law_690 : decode code 690 = .ok (.iload 5, 2) := by decide +kernel
theorem d_Lw_law_692 : decode code 692 = .ok (.if_icmp .eq 5, 3) := by decide +kernel
theorem d_Lw_law_695 : decode code 695 = .ok (.iconst 0, 1) := by decide +kernel
theorem d_Lw_law_696 : decode code 696 = .ok (.ireturn, 1) := by decide +kernel
theorem d_Lw_law_697 : decode code 697 = .ok (.goto 567, 3) := by decide +kernel
theorem d_Lw_law_700 : decode code 700 = .ok (.aload_n 1, 1) := by decide +kernel
theorem d_Lw_law_701 : decode code 701 = .ok (.aload_n 0, 1) := by decide +kernel
theorem d_Lw_law_702 : decode code 702 = .ok (.iload 4, 2) := by decide +kernel
theorem d_Lw_law_704 : decode code 704 = .ok (.iconst 1, 1) := by decide +kernel
theorem d_Lw_law_705 : decode code 705 = .ok (.iadd, 1) := by decide +kernel
theorem d_Lw_law_706 : decode code 706 = .ok (.iaload, 1) := by decide +kernel
theorem d_Lw_law_707 : decode code 707 = .ok (.aload_n 0, 1) := by decide +kernel
theorem d_Lw_law_708 : decode code 708 = .ok (.iload 4, 2) := by decide +kernel
theorem d_Lw_law_710 : decode code 710 = .ok (.iconst 2, 1) := by decide +kernel
theorem d_Lw_law_711 : decode code 711 = .ok (.iadd, 1) := by decide +kernel
theorem d_Lw_law_712 : decode code 712 = .ok (.iaload, 1) := by decide +kernel
theorem d_Lw_law_713 : decode code 713 = .ok (.aload_n 0, 1) := by decide +kernel
theorem d_Lw_law_714 : decode code 714 = .ok (.iload 4, 2) := by decide +kernel
theorem d_Lw_law_716 : decode code 716 = .ok (.iconst 3, 1) := by decide +kernel
theorem d_Lw_law_717 : decode code 717 = .ok (.iadd, 1) := by decide +kernel
theorem d_Lw_law_718 : decode code 718 = .ok (.iaload, 1) := by decide +kernel
theorem d_Lw_law_719 : decode code 719 = .ok (.aload_n 3, 1) := by decide +kernel
theorem d_Lw_law_720 : decode code 720 = .ok (.invokestatic 121, 3) := by decide +kernel
theorem d_Lw_law_723 : decode code 723 = .ok (.istore 5, 2) := by decide +kernel
theorem d_Lw_law_725 : decode code 725 = .ok (.aload_n 2, 1) := by decide +kernel
theorem d_Lw_law_726 : decode code 726 = .ok (.aload_n 0, 1) := by decide +kernel
theorem d_Lw_law_727 : decode code 727 = .ok (.iload 4, 2) := by decide +kernel
theorem d_Lw_law_729 : decode code 729 = .ok (.iconst 1, 1) := by decide +kernel
theorem d_Lw_law_730 : decode code 730 = .ok (.iadd, 1) := by decide +kernel
theorem d_Lw_law_731 : decode code 731 = .ok (.iaload, 1) := by decide +kernel
theorem d_Lw_law_732 : decode code 732 = .ok (.aload_n 0, 1) := by decide +kernel
theorem d_Lw_law_733 : decode code 733 = .ok (.iload 4, 2) := by decide +kernel
theorem d_Lw_law_735 : decode code 735 = .ok (.iconst 2, 1) := by decide +kernel
theorem d_Lw_law_736 : decode code 736 = .ok (.iadd, 1) := by decide +kernel
theorem d_Lw_law_737 : decode code 737 = .ok (.iaload, 1) := by decide +kernel
theorem d_Lw_law_738 : decode code 738 = .ok (.aload_n 0, 1) := by decide +kernel
theorem d_Lw_law_739 : decode code 739 = .ok (.iload 4, 2) := by decide +kernel
theorem d_Lw_law_741 : decode code 741 = .ok (.iconst 3, 1) := by decide +kernel
theorem d_Lw_law_742 : decode code 742 = .ok (.iadd, 1) := by decide +kernel
theorem d_Lw_law_743 : decode code 743 = .ok (.iaload, 1) := by decide +kernel
theorem d_Lw_law_744 : decode code 744 = .ok (.invokevirtual 123, 3) := by decide +kernel
theorem d_Lw_law_747 : decode code 747 = .ok (.istore 6, 2) := by decide +kernel
theorem d_Lw_law_749 : decode code 749 = .ok (.aload_n 2, 1) := by decide +kernel
theorem d_Lw_law_750 : decode code 750 = .ok (.invokevirtual 85, 3) := by decide +kernel
theorem d_Lw_law_753 : decode code 753 = .ok (.iload 5, 2) := by decide +kernel
theorem d_Lw_law_755 : decode code 755 = .ok (.if_icmp .eq 5, 3) := by decide +kernel
theorem d_Lw_law_758 : decode code 758 = .ok (.iconst 0, 1) := by decide +kernel
theorem d_Lw_law_759 : decode code 759 = .ok (.ireturn, 1) := by decide +kernel
theorem d_Lw_law_760 : decode code 760 = .ok (.iload 5, 2) := by decide +kernel
theorem d_Lw_law_762 : decode code 762 = .ok (.ifCond .ne 15, 3) := by decide +kernel
theorem d_Lw_law_765 : decode code 765 = .ok (.aload_n 3, 1) := by decide +kernel
theorem d_Lw_law_766 : decode code 766 = .ok (.iconst 0, 1) := by decide +kernel
theorem d_Lw_law_767 : decode code 767 = .ok (.laload, 1) := by decide +kernel
theorem d_Lw_law_768 : decode code 768 = .ok (.iload 6, 2) := by decide +kernel
theorem d_Lw_law_770 : decode code 770 = .ok (.i2l, 1) := by decide +kernel
theorem d_Lw_law_771 : decode code 771 = .ok (.lcmp, 1) := by decide +kernel
theorem d_Lw_law_772 : decode code 772 = .ok (.ifCond .eq 5, 3) := by decide +kernel
theorem d_Lw_law_775 : decode code 775 = .ok (.iconst 0, 1) := by decide +kernel
theorem d_Lw_law_776 : decode code 776 = .ok (.ireturn, 1) := by decide +kernel
theorem d_Lw_law_777 : decode code 777 = .ok (.goto 487, 3) := by decide +kernel
theorem d_Lw_law_780 : decode code 780 = .ok (.aload_n 1, 1) := by decide +kernel
theorem d_Lw_law_781 : decode code 781 = .ok (.aload_n 0, 1) := by decide +kernel
theorem d_Lw_law_782 : decode code 782 = .ok (.iload 4, 2) := by decide +kernel
theorem d_Lw_law_784 : decode code 784 = .ok (.iconst 1, 1) := by decide +kernel
theorem d_Lw_law_785 : decode code 785 = .ok (.iadd, 1) := by decide +kernel
theorem d_Lw_law_786 : decode code 786 = .ok (.iaload, 1) := by decide +kernel
theorem d_Lw_law_787 : decode code 787 = .ok (.aload_n 0, 1) := by decide +kernel
theorem d_Lw_law_788 : decode code 788 = .ok (.iload 4, 2) := by decide +kernel
theorem d_Lw_law_790 : decode code 790 = .ok (.iconst 2, 1) := by decide +kernel
theorem d_Lw_law_791 : decode code 791 = .ok (.iadd, 1) := by decide +kernel
theorem d_Lw_law_792 : decode code 792 = .ok (.iaload, 1) := by decide +kernel
theorem d_Lw_law_793 : decode code 793 = .ok (.aload_n 3, 1) := by decide +kernel
theorem d_Lw_law_794 : decode code 794 = .ok (.invokestatic 124, 3) := by decide +kernel
theorem d_Lw_law_797 : decode code 797 = .ok (.istore 5, 2) := by decide +kernel
theorem d_Lw_law_799 : decode code 799 = .ok (.aload_n 2, 1) := by decide +kernel
theorem d_Lw_law_800 : decode code 800 = .ok (.aload_n 0, 1) := by decide +kernel
theorem d_Lw_law_801 : decode code 801 = .ok (.iload 4, 2) := by decide +kernel
theorem d_Lw_law_803 : decode code 803 = .ok (.iconst 1, 1) := by decide +kernel
theorem d_Lw_law_804 : decode code 804 = .ok (.iadd, 1) := by decide +kernel
theorem d_Lw_law_805 : decode code 805 = .ok (.iaload, 1) := by decide +kernel
theorem d_Lw_law_806 : decode code 806 = .ok (.aload_n 0, 1) := by decide +kernel
theorem d_Lw_law_807 : decode code 807 = .ok (.iload 4, 2) := by decide +kernel
theorem d_Lw_law_809 : decode code 809 = .ok (.iconst 2, 1) := by decide +kernel
theorem d_Lw_law_810 : decode code 810 = .ok (.iadd, 1) := by decide +kernel
theorem d_Lw_law_811 : decode code 811 = .ok (.iaload, 1) := by decide +kernel
theorem d_Lw_law_812 : decode code 812 = .ok (.invokevirtual 127, 3) := by decide +kernel
theorem d_Lw_law_815 : decode code 815 = .ok (.istore 6, 2) := by decide +kernel
theorem d_Lw_law_817 : decode code 817 = .ok (.aload_n 2, 1) := by decide +kernel
theorem d_Lw_law_818 : decode code 818 = .ok (.invokevirtual 85, 3) := by decide +kernel
theorem d_Lw_law_821 : decode code 821 = .ok (.iload 5, 2) := by decide +kernel
theorem d_Lw_law_823 : decode code 823 = .ok (.if_icmp .eq 5, 3) := by decide +kernel
theorem d_Lw_law_826 : decode code 826 = .ok (.iconst 0, 1) := by decide +kernel
theorem d_Lw_law_827 : decode code 827 = .ok (.ireturn, 1) := by decide +kernel
theorem d_Lw_law_828 : decode code 828 = .ok (.iload 5, 2) := by decide +kernel
theorem d_Lw_law_830 : decode code 830 = .ok (.ifCond .ne 15, 3) := by decide +kernel
theorem d_Lw_law_833 : decode code 833 = .ok (.aload_n 3, 1) := by decide +kernel
theorem d_Lw_law_834 : decode code 834 = .ok (.iconst 0, 1) := by decide +kernel
theorem d_Lw_law_835 : decode code 835 = .ok (.laload, 1) := by decide +kernel
theorem d_Lw_law_836 : decode code 836 = .ok (.iload 6, 2) := by decide +kernel
theorem d_Lw_law_838 : decode code 838 = .ok (.i2l, 1) := by decide +kernel
theorem d_Lw_law_839 : decode code 839 = .ok (.lcmp, 1) := by decide +kernel
theorem d_Lw_law_840 : decode code 840 = .ok (.ifCond .eq 5, 3) := by decide +kernel
theorem d_Lw_law_843 : decode code 843 = .ok (.iconst 0, 1) := by decide +kernel
theorem d_Lw_law_844 : decode code 844 = .ok (.ireturn, 1) := by decide +kernel
theorem d_Lw_law_845 : decode code 845 = .ok (.goto 419, 3) := by decide +kernel
theorem d_Lw_law_848 : decode code 848 = .ok (.aload_n 1, 1) := by decide +kernel
theorem d_Lw_law_849 : decode code 849 = .ok (.aload_n 0, 1) := by decide +kernel
theorem d_Lw_law_850 : decode code 850 = .ok (.iload 4, 2) := by decide +kernel
theorem d_Lw_law_852 : decode code 852 = .ok (.iconst 1, 1) := by decide +kernel
theorem d_Lw_law_853 : decode code 853 = .ok (.iadd, 1) := by decide +kernel
theorem d_Lw_law_854 : decode code 854 = .ok (.iaload, 1) := by decide +kernel
theorem d_Lw_law_855 : decode code 855 = .ok (.aload_n 0, 1) := by decide +kernel
theorem d_Lw_law_856 : decode code 856 = .ok (.iload 4, 2) := by decide +kernel
theorem d_Lw_law_858 : decode code 858 = .ok (.iconst 2, 1) := by decide +kernel
theorem d_Lw_law_859 : decode code 859 = .ok (.iadd, 1) := by decide +kernel
theorem d_Lw_law_860 : decode code 860 = .ok (.iaload, 1) := by decide +kernel
theorem d_Lw_law_861 : decode code 861 = .ok (.aload_n 0, 1) := by decide +kernel
theorem d_Lw_law_862 : decode code 862 = .ok (.iload 4, 2) := by decide +kernel
theorem d_Lw_law_864 : decode code 864 = .ok (.iconst 3, 1) := by decide +kernel
theorem d_Lw_law_865 : decode code 865 = .ok (.iadd, 1) := by decide +kernel
theorem d_Lw_law_866 : decode code 866 = .ok (.iaload, 1) := by decide +kernel
theorem d_Lw_law_867 : decode code 867 = .ok (.aload_n 3, 1) := by decide +kernel
theorem d_Lw_law_868 : decode code 868 = .ok (.invokestatic 128, 3) := by decide +kernel
theorem d_Lw_law_871 : decode code 871 = .ok (.istore 5, 2) := by decide +kernel
theorem d_Lw_law_873 : decode code 873 = .ok (.aload_n 2, 1) := by decide +kernel
theorem d_Lw_law_874 : decode code 874 = .ok (.aload_n 0, 1) := by decide +kernel
theorem d_Lw_law_875 : decode code 875 = .ok (.iload 4, 2) := by decide +kernel
theorem d_Lw_law_877 : decode code 877 = .ok (.iconst 1, 1) := by decide +kernel
theorem d_Lw_law_878 : decode code 878 = .ok (.iadd, 1) := by decide +kernel
theorem d_Lw_law_879 : decode code 879 = .ok (.iaload, 1) := by decide +kernel
theorem d_Lw_law_880 : decode code 880 = .ok (.aload_n 0, 1) := by decide +kernel
theorem d_Lw_law_881 : decode code 881 = .ok (.iload 4, 2) := by decide +kernel
theorem d_Lw_law_883 : decode code 883 = .ok (.iconst 2, 1) := by decide +kernel
theorem d_Lw_law_884 : decode code 884 = .ok (.iadd, 1) := by decide +kernel
theorem d_Lw_law_885 : decode code 885 = .ok (.iaload, 1) := by decide +kernel
theorem d_Lw_law_886 : decode code 886 = .ok (.aload_n 0, 1) := by decide +kernel
theorem d_Lw_law_887 : decode code 887 = .ok (.iload 4, 2) := by decide +kernel
theorem d_Lw_law_889 : decode code 889 = .ok (.iconst 3, 1) := by decide +kernel
theorem d_Lw_law_890 : decode code 890 = .ok (.iadd, 1) := by decide +kernel
theorem d_Lw_law_891 : decode code 891 = .ok (.iaload, 1) := by decide +kernel
theorem d_Lw_law_892 : decode code 892 = .ok (.invokevirtual 130, 3) := by decide +kernel
theorem d_Lw_law_895 : decode code 895 = .ok (.istore 6, 2) := by decide +kernel
theorem d_Lw_law_897 : decode code 897 = .ok (.aload_n 2, 1) := by decide +kernel
theorem d_Lw_law_898 : decode code 898 = .ok (.invokevirtual 85, 3) := by decide +kernel
theorem d_Lw_law_901 : decode code 901 = .ok (.iload 5, 2) := by decide +kernel
theorem d_Lw_law_903 : decode code 903 = .ok (.if_icmp .eq 5, 3) := by decide +kernel
theorem d_Lw_law_906 : decode code 906 = .ok (.iconst 0, 1) := by decide +kernel
theorem d_Lw_law_907 : decode code 907 = .ok (.ireturn, 1) := by decide +kernel
theorem d_Lw_law_908 : decode code 908 = .ok (.iload 5, 2) := by decide +kernel
theorem d_Lw_law_910 : decode code 910 = .ok (.ifCond .ne 15, 3) := by decide +kernel
theorem d_Lw_law_913 : decode code 913 = .ok (.aload_n 3, 1) := by decide +kernel
theorem d_Lw_law_914 : decode code 914 = .ok (.iconst 0, 1) := by decide +kernel
theorem d_Lw_law_915 : decode code 915 = .ok (.laload, 1) := by decide +kernel
theorem d_Lw_law_916 : decode code 916 = .ok (.iload 6, 2) := by decide +kernel
theorem d_Lw_law_918 : decode code 918 = .ok (.i2l, 1) := by decide +kernel
theorem d_Lw_law_919 : decode code 919 = .ok (.lcmp, 1) := by decide +kernel
theorem d_Lw_law_920 : decode code 920 = .ok (.ifCond .eq 5, 3) := by decide +kernel
theorem d_Lw_law_923 : decode code 923 = .ok (.iconst 0, 1) := by decide +kernel
theorem d_Lw_law_924 : decode code 924 = .ok (.ireturn, 1) := by decide +kernel
theorem d_Lw_law_925 : decode code 925 = .ok (.goto 339, 3) := by decide +kernel
theorem d_Lw_law_928 : decode code 928 = .ok (.aload_n 1, 1) := by decide +kernel
theorem d_Lw_law_929 : decode code 929 = .ok (.aload_n 0, 1) := by decide +kernel
theorem d_Lw_law_930 : decode code 930 = .ok (.iload 4, 2) := by decide +kernel
theorem d_Lw_law_932 : decode code 932 = .ok (.iconst 1, 1) := by decide +kernel
theorem d_Lw_law_933 : decode code 933 = .ok (.iadd, 1) := by decide +kernel
theorem d_Lw_law_934 : decode code 934 = .ok (.iaload, 1) := by decide +kernel
theorem d_Lw_law_935 : decode code 935 = .ok (.aload_n 3, 1) := by decide +kernel
theorem d_Lw_law_936 : decode code 936 = .ok (.invokestatic 131, 3) := by decide +kernel
theorem d_Lw_law_939 : decode code 939 = .ok (.istore 5, 2) := by decide +kernel
theorem d_Lw_law_941 : decode code 941 = .ok (.aload_n 2, 1) := by decide +kernel
theorem d_Lw_law_942 : decode code 942 = .ok (.aload_n 0, 1) := by decide +kernel
theorem d_Lw_law_943 : decode code 943 = .ok (.iload 4, 2) := by decide +kernel
theorem d_Lw_law_945 : decode code 945 = .ok (.iconst 1, 1) := by decide +kernel
theorem d_Lw_law_946 : decode code 946 = .ok (.iadd, 1) := by decide +kernel
theorem d_Lw_law_947 : decode code 947 = .ok (.iaload, 1) := by decide +kernel
theorem d_Lw_law_948 : decode code 948 = .ok (.invokevirtual 133, 3) := by decide +kernel
theorem d_Lw_law_951 : decode code 951 = .ok (.istore 6, 2) := by decide +kernel
theorem d_Lw_law_953 : decode code 953 = .ok (.aload_n 2, 1) := by decide +kernel
theorem d_Lw_law_954 : decode code 954 = .ok (.invokevirtual 85, 3) := by decide +kernel
theorem d_Lw_law_957 : decode code 957 = .ok (.iload 5, 2) := by decide +kernel
theorem d_Lw_law_959 : decode code 959 = .ok (.if_icmp .eq 5, 3) := by decide +kernel
theorem d_Lw_law_962 : decode code 962 = .ok (.iconst 0, 1) := by decide +kernel
theorem d_Lw_law_963 : decode code 963 = .ok (.ireturn, 1) := by decide +kernel
theorem d_Lw_law_964 : decode code 964 = .ok (.iload 5, 2) := by decide +kernel
theorem d_Lw_law_966 : decode code 966 = .ok (.ifCond .ne 15, 3) := by decide +kernel
theorem d_Lw_law_969 : decode code 969 = .ok (.aload_n 3, 1) := by decide +kernel
theorem d_Lw_law_970 : decode code 970 = .ok (.iconst 0, 1) := by decide +kernel
theorem d_Lw_law_971 : decode code 971 = .ok (.laload, 1) := by decide +kernel
theorem d_Lw_law_972 : decode code 972 = .ok (.iload 6, 2) := by decide +kernel
theorem d_Lw_law_974 : decode code 974 = .ok (.i2l, 1) := by decide +kernel
theorem d_Lw_law_975 : decode code 975 = .ok (.lcmp, 1) := by decide +kernel
theorem d_Lw_law_976 : decode code 976 = .ok (.ifCond .eq 5, 3) := by decide +kernel
theorem d_Lw_law_979 : decode code 979 = .ok (.iconst 0, 1) := by decide +kernel
theorem d_Lw_law_980 : decode code 980 = .ok (.ireturn, 1) := by decide +kernel
theorem d_Lw_law_981 : decode code 981 = .ok (.goto 283, 3) := by decide +kernel
theorem d_Lw_law_984 : decode code 984 = .ok (.aload_n 1, 1) := by decide +kernel
theorem d_Lw_law_985 : decode code 985 = .ok (.aload_n 0, 1) := by decide +kernel
theorem d_Lw_law_986 : decode code 986 = .ok (.iload 4, 2) := by decide +kernel
theorem d_Lw_law_988 : decode code 988 = .ok (.iconst 1, 1) := by decide +kernel
theorem d_Lw_law_989 : decode code 989 = .ok (.iadd, 1) := by decide +kernel
theorem d_Lw_law_990 : decode code 990 = .ok (.iaload, 1) := by decide +kernel
theorem d_Lw_law_991 : decode code 991 = .ok (.aload_n 3, 1) := by decide +kernel
theorem d_Lw_law_992 : decode code 992 = .ok (.invokestatic 134, 3) := by decide +kernel
theorem d_Lw_law_995 : decode code 995 = .ok (.istore 5, 2) := by decide +kernel
theorem d_Lw_law_997 : decode code 997 = .ok (.aload_n 2, 1) := by decide +kernel
theorem d_Lw_law_998 : decode code 998 = .ok (.aload_n 0, 1) := by decide +kernel
theorem d_Lw_law_999 : decode code 999 = .ok (.iload 4, 2) := by decide +kernel
theorem d_Lw_law_1001 : decode code 1001 = .ok (.iconst 1, 1) := by decide +kernel
theorem d_Lw_law_1002 : decode code 1002 = .ok (.iadd, 1) := by decide +kernel
theorem d_Lw_law_1003 : decode code 1003 = .ok (.iaload, 1) := by decide +kernel
theorem d_Lw_law_1004 : decode code 1004 = .ok (.invokevirtual 136, 3) := by decide +kernel
theorem d_Lw_law_1007 : decode code 1007 = .ok (.istore 6, 2) := by decide +kernel
theorem d_Lw_law_1009 : decode code 1009 = .ok (.aload_n 2, 1) := by decide +kernel
theorem d_Lw_law_1010 : decode code 1010 = .ok (.invokevirtual 85, 3) := by decide +kernel
theorem d_Lw_law_1013 : decode code 1013 = .ok (.iload 5, 2) := by decide +kernel
theorem d_Lw_law_1015 : decode code 1015 = .ok (.if_icmp .eq 5, 3) := by decide +kernel
theorem d_Lw_law_1018 : decode code 1018 = .ok (.iconst 0, 1) := by decide +kernel
theorem d_Lw_law_1019 : decode code 1019 = .ok (.ireturn, 1) := by decide +kernel
theorem d_Lw_law_1020 : decode code 1020 = .ok (.iload 5, 2) := by decide +kernel
theorem d_Lw_law_1022 : decode code 1022 = .ok (.ifCond .ne 15, 3) := by decide +kernel
theorem d_Lw_law_1025 : decode code 1025 = .ok (.aload_n 3, 1) := by decide +kernel
theorem d_Lw_law_1026 : decode code 1026 = .ok (.iconst 0, 1) := by decide +kernel
theorem d_Lw_law_1027 : decode code 1027 = .ok (.laload, 1) := by decide +kernel
theorem d_Lw_law_1028 : decode code 1028 = .ok (.iload 6, 2) := by decide +kernel
theorem d_Lw_law_1030 : decode code 1030 = .ok (.i2l, 1) := by decide +kernel
theorem d_Lw_law_1031 : decode code 1031 = .ok (.lcmp, 1) := by decide +kernel
theorem d_Lw_law_1032 : decode code 1032 = .ok (.ifCond .eq 5, 3) := by decide +kernel
theorem d_Lw_law_1035 : decode code 1035 = .ok (.iconst 0, 1) := by decide +kernel
theorem d_Lw_law_1036 : decode code 1036 = .ok (.ireturn, 1) := by decide +kernel
theorem d_Lw_law_1037 : decode code 1037 = .ok (.goto 227, 3) := by decide +kernel
theorem d_Lw_law_1040 : decode code 1040 = .ok (.aload_n 1, 1) := by decide +kernel
theorem d_Lw_law_1041 : decode code 1041 = .ok (.aload_n 0, 1) := by decide +kernel
theorem d_Lw_law_1042 : decode code 1042 = .ok (.iload 4, 2) := by decide +kernel
theorem d_Lw_law_1044 : decode code 1044 = .ok (.iconst 1, 1) := by decide +kernel
theorem d_Lw_law_1045 : decode code 1045 = .ok (.iadd, 1) := by decide +kernel
theorem d_Lw_law_1046 : decode code 1046 = .ok (.iaload, 1) := by decide +kernel
theorem d_Lw_law_1047 : decode code 1047 = .ok (.ifCond .eq 7, 3) := by decide +kernel
theorem d_Lw_law_1050 : decode code 1050 = .ok (.iconst 1, 1) := by decide +kernel
theorem d_Lw_law_1051 : decode code 1051 = .ok (.goto 4, 3) := by decide +kernel
theorem d_Lw_law_1054 : decode code 1054 = .ok (.iconst 0, 1) := by decide +kernel
theorem d_Lw_law_1055 : decode code 1055 = .ok (.aload_n 3, 1) := by decide +kernel
theorem d_Lw_law_1056 : decode code 1056 = .ok (.invokestatic 137, 3) := by decide +kernel
theorem d_Lw_law_1059 : decode code 1059 = .ok (.istore 5, 2) := by decide +kernel
theorem d_Lw_law_1061 : decode code 1061 = .ok (.aload_n 2, 1) := by decide +kernel
theorem d_Lw_law_1062 : decode code 1062 = .ok (.aload_n 0, 1) := by decide +kernel
theorem d_Lw_law_1063 : decode code 1063 = .ok (.iload 4, 2) := by decide +kernel
theorem d_Lw_law_1065 : decode code 1065 = .ok (.iconst 1, 1) := by decide +kernel
theorem d_Lw_law_1066 : decode code 1066 = .ok (.iadd, 1) := by decide +kernel
theorem d_Lw_law_1067 : decode code 1067 = .ok (.iaload, 1) := by decide +kernel
theorem d_Lw_law_1068 : decode code 1068 = .ok (.ifCond .eq 7, 3) := by decide +kernel
theorem d_Lw_law_1071 : decode code 1071 = .ok (.iconst 1, 1) := by decide +kernel
theorem d_Lw_law_1072 : decode code 1072 = .ok (.goto 4, 3) := by decide +kernel
theorem d_Lw_law_1075 : decode code 1075 = .ok (.iconst 0, 1) := by decide +kernel
theorem d_Lw_law_1076 : decode code 1076 = .ok (.invokevirtual 140, 3) := by decide +kernel
theorem d_Lw_law_1079 : decode code 1079 = .ok (.istore 6, 2) := by decide +kernel
theorem d_Lw_law_1081 : decode code 1081 = .ok (.aload_n 2, 1) := by decide +kernel
theorem d_Lw_law_1082 : decode code 1082 = .ok (.invokevirtual 85, 3) := by decide +kernel
theorem d_Lw_law_1085 : decode code 1085 = .ok (.iload 5, 2) := by decide +kernel
theorem d_Lw_law_1087 : decode code 1087 = .ok (.if_icmp .eq 5, 3) := by decide +kernel
theorem d_Lw_law_1090 : decode code 1090 = .ok (.iconst 0, 1) := by decide +kernel
theorem d_Lw_law_1091 : decode code 1091 = .ok (.ireturn, 1) := by decide +kernel
theorem d_Lw_law_1092 : decode code 1092 = .ok (.iload 5, 2) := by decide +kernel
theorem d_Lw_law_1094 : decode code 1094 = .ok (.ifCond .ne 15, 3) := by decide +kernel
theorem d_Lw_law_1097 : decode code 1097 = .ok (.aload_n 3, 1) := by decide +kernel
theorem d_Lw_law_1098 : decode code 1098 = .ok (.iconst 0, 1) := by decide +kernel
theorem d_Lw_law_1099 : decode code 1099 = .ok (.laload, 1) := by decide +kernel
theorem d_Lw_law_1100 : decode code 1100 = .ok (.iload 6, 2) := by decide +kernel
theorem d_Lw_law_1102 : decode code 1102 = .ok (.i2l, 1) := by decide +kernel
theorem d_Lw_law_1103 : decode code 1103 = .ok (.lcmp, 1) := by decide +kernel
theorem d_Lw_law_1104 : decode code 1104 = .ok (.ifCond .eq 5, 3) := by decide +kernel
theorem d_Lw_law_1107 : decode code 1107 = .ok (.iconst 0, 1) := by decide +kernel
theorem d_Lw_law_1108 : decode code 1108 = .ok (.ireturn, 1) := by decide +kernel
theorem d_Lw_law_1109 : decode code 1109 = .ok (.goto 155, 3) := by decide +kernel
theorem d_Lw_law_1112 : decode code 1112 = .ok (.aload_n 1, 1) := by decide +kernel
theorem d_Lw_law_1113 : decode code 1113 = .ok (.aload_n 0, 1) := by decide +kernel
theorem d_Lw_law_1114 : decode code 1114 = .ok (.iload 4, 2) := by decide +kernel
theorem d_Lw_law_1116 : decode code 1116 = .ok (.iconst 1, 1) := by decide +kernel
theorem d_Lw_law_1117 : decode code 1117 = .ok (.iadd, 1) := by decide +kernel
theorem d_Lw_law_1118 : decode code 1118 = .ok (.iaload, 1) := by decide +kernel
theorem d_Lw_law_1119 : decode code 1119 = .ok (.aload_n 3, 1) := by decide +kernel
theorem d_Lw_law_1120 : decode code 1120 = .ok (.invokestatic 141, 3) := by decide +kernel
theorem d_Lw_law_1123 : decode code 1123 = .ok (.istore 5, 2) := by decide +kernel
theorem d_Lw_law_1125 : decode code 1125 = .ok (.aload_n 2, 1) := by decide +kernel
theorem d_Lw_law_1126 : decode code 1126 = .ok (.aload_n 0, 1) := by decide +kernel
theorem d_Lw_law_1127 : decode code 1127 = .ok (.iload 4, 2) := by decide +kernel
theorem d_Lw_law_1129 : decode code 1129 = .ok (.iconst 1, 1) := by decide +kernel
theorem d_Lw_law_1130 : decode code 1130 = .ok (.iadd, 1) := by decide +kernel
theorem d_Lw_law_1131 : decode code 1131 = .ok (.iaload, 1) := by decide +kernel
theorem d_Lw_law_1132 : decode code 1132 = .ok (.invokevirtual 143, 3) := by decide +kernel
theorem d_Lw_law_1135 : decode code 1135 = .ok (.istore 6, 2) := by decide +kernel
theorem d_Lw_law_1137 : decode code 1137 = .ok (.aload_n 2, 1) := by decide +kernel
theorem d_Lw_law_1138 : decode code 1138 = .ok (.invokevirtual 85, 3) := by decide +kernel
theorem d_Lw_law_1141 : decode code 1141 = .ok (.iload 5, 2) := by decide +kernel
theorem d_Lw_law_1143 : decode code 1143 = .ok (.if_icmp .eq 5, 3) := by decide +kernel
theorem d_Lw_law_1146 : decode code 1146 = .ok (.iconst 0, 1) := by decide +kernel
theorem d_Lw_law_1147 : decode code 1147 = .ok (.ireturn, 1) := by decide +kernel
theorem d_Lw_law_1148 : decode code 1148 = .ok (.iload 5, 2) := by decide +kernel
theorem d_Lw_law_1150 : decode code 1150 = .ok (.ifCond .ne 15, 3) := by decide +kernel
theorem d_Lw_law_1153 : decode code 1153 = .ok (.aload_n 3, 1) := by decide +kernel
theorem d_Lw_law_1154 : decode code 1154 = .ok (.iconst 0, 1) := by decide +kernel
theorem d_Lw_law_1155 : decode code 1155 = .ok (.laload, 1) := by decide +kernel
theorem d_Lw_law_1156 : decode code 1156 = .ok (.iload 6, 2) := by decide +kernel
theorem d_Lw_law_1158 : decode code 1158 = .ok (.i2l, 1) := by decide +kernel
theorem d_Lw_law_1159 : decode code 1159 = .ok (.lcmp, 1) := by decide +kernel
theorem d_Lw_law_1160 : decode code 1160 = .ok (.ifCond .eq 5, 3) := by decide +kernel
theorem d_Lw_law_1163 : decode code 1163 = .ok (.iconst 0, 1) := by decide +kernel
theorem d_Lw_law_1164 : decode code 1164 = .ok (.ireturn, 1) := by decide +kernel
theorem d_Lw_law_1165 : decode code 1165 = .ok (.goto 99, 3) := by decide +kernel
theorem d_Lw_law_1168 : decode code 1168 = .ok (.aload_n 1, 1) := by decide +kernel
theorem d_Lw_law_1169 : decode code 1169 = .ok (.aload_n 0, 1) := by decide +kernel
theorem d_Lw_law_1170 : decode code 1170 = .ok (.iload 4, 2) := by decide +kernel
theorem d_Lw_law_1172 : decode code 1172 = .ok (.iconst 1, 1) := by decide +kernel
theorem d_Lw_law_1173 : decode code 1173 = .ok (.iadd, 1) := by decide +kernel
theorem d_Lw_law_1174 : decode code 1174 = .ok (.iaload, 1) := by decide +kernel
theorem d_Lw_law_1175 : decode code 1175 = .ok (.aload_n 0, 1) := by decide +kernel
theorem d_Lw_law_1176 : decode code 1176 = .ok (.iload 4, 2) := by decide +kernel
theorem d_Lw_law_1178 : decode code 1178 = .ok (.iconst 2, 1) := by decide +kernel
theorem d_Lw_law_1179 : decode code 1179 = .ok (.iadd, 1) := by decide +kernel
theorem d_Lw_law_1180 : decode code 1180 = .ok (.iaload, 1) := by decide +kernel
theorem d_Lw_law_1181 : decode code 1181 = .ok (.invokestatic 144, 3) := by decide +kernel
theorem d_Lw_law_1184 : decode code 1184 = .ok (.istore 5, 2) := by decide +kernel
theorem d_Lw_law_1186 : decode code 1186 = .ok (.aload_n 2, 1) := by decide +kernel
theorem d_Lw_law_1187 : decode code 1187 = .ok (.aload_n 0, 1) := by decide +kernel
theorem d_Lw_law_1188 : decode code 1188 = .ok (.iload 4, 2) := by decide +kernel
theorem d_Lw_law_1190 : decode code 1190 = .ok (.iconst 1, 1) := by decide +kernel
theorem d_Lw_law_1191 : decode code 1191 = .ok (.iadd, 1) := by decide +kernel
theorem d_Lw_law_1192 : decode code 1192 = .ok (.iaload, 1) := by decide +kernel
theorem d_Lw_law_1193 : decode code 1193 = .ok (.aload_n 0, 1) := by decide +kernel
theorem d_Lw_law_1194 : decode code 1194 = .ok (.iload 4, 2) := by decide +kernel
theorem d_Lw_law_1196 : decode code 1196 = .ok (.iconst 2, 1) := by decide +kernel
theorem d_Lw_law_1197 : decode code 1197 = .ok (.iadd, 1) := by decide +kernel
theorem d_Lw_law_1198 : decode code 1198 = .ok (.iaload, 1) := by decide +kernel
theorem d_Lw_law_1199 : decode code 1199 = .ok (.invokevirtual 147, 3) := by decide +kernel
theorem d_Lw_law_1202 : decode code 1202 = .ok (.aload_n 2, 1) := by decide +kernel
theorem d_Lw_law_1203 : decode code 1203 = .ok (.invokevirtual 85, 3) := by decide +kernel
theorem d_Lw_law_1206 : decode code 1206 = .ok (.iload 5, 2) := by decide +kernel
theorem d_Lw_law_1208 : decode code 1208 = .ok (.if_icmp .eq 5, 3) := by decide +kernel
theorem d_Lw_law_1211 : decode code 1211 = .ok (.iconst 0, 1) := by decide +kernel
theorem d_Lw_law_1212 : decode code 1212 = .ok (.ireturn, 1) := by decide +kernel
theorem d_Lw_law_1213 : decode code 1213 = .ok (.goto 51, 3) := by decide +kernel
theorem d_Lw_law_1216 : decode code 1216 = .ok (.aload_n 1, 1) := by decide +kernel
theorem d_Lw_law_1217 : decode code 1217 = .ok (.aload_n 0, 1) := by decide +kernel
theorem d_Lw_law_1218 : decode code 1218 = .ok (.iload 4, 2) := by decide +kernel
theorem d_Lw_law_1220 : decode code 1220 = .ok (.iconst 1, 1) := by decide +kernel
theorem d_Lw_law_1221 : decode code 1221 = .ok (.iadd, 1) := by decide +kernel
theorem d_Lw_law_1222 : decode code 1222 = .ok (.iaload, 1) := by decide +kernel
theorem d_Lw_law_1223 : decode code 1223 = .ok (.aload_n 0, 1) := by decide +kernel
theorem d_Lw_law_1224 : decode code 1224 = .ok (.iload 4, 2) := by decide +kernel
theorem d_Lw_law_1226 : decode code 1226 = .ok (.iconst 2, 1) := by decide +kernel
theorem d_Lw_law_1227 : decode code 1227 = .ok (.iadd, 1) := by decide +kernel
theorem d_Lw_law_1228 : decode code 1228 = .ok (.iaload, 1) := by decide +kernel
theorem d_Lw_law_1229 : decode code 1229 = .ok (.invokestatic 148, 3) := by decide +kernel
theorem d_Lw_law_1232 : decode code 1232 = .ok (.istore 5, 2) := by decide +kernel
theorem d_Lw_law_1234 : decode code 1234 = .ok (.aload_n 2, 1) := by decide +kernel
theorem d_Lw_law_1235 : decode code 1235 = .ok (.aload_n 0, 1) := by decide +kernel
theorem d_Lw_law_1236 : decode code 1236 = .ok (.iload 4, 2) := by decide +kernel
theorem d_Lw_law_1238 : decode code 1238 = .ok (.iconst 1, 1) := by decide +kernel
theorem d_Lw_law_1239 : decode code 1239 = .ok (.iadd, 1) := by decide +kernel
theorem d_Lw_law_1240 : decode code 1240 = .ok (.iaload, 1) := by decide +kernel
theorem d_Lw_law_1241 : decode code 1241 = .ok (.aload_n 0, 1) := by decide +kernel
theorem d_Lw_law_1242 : decode code 1242 = .ok (.iload 4, 2) := by decide +kernel
theorem d_Lw_law_1244 : decode code 1244 = .ok (.iconst 2, 1) := by decide +kernel
theorem d_Lw_law_1245 : decode code 1245 = .ok (.iadd, 1) := by decide +kernel
theorem d_Lw_law_1246 : decode code 1246 = .ok (.iaload, 1) := by decide +kernel
theorem d_Lw_law_1247 : decode code 1247 = .ok (.invokevirtual 150, 3) := by decide +kernel
theorem d_Lw_law_1250 : decode code 1250 = .ok (.aload_n 2, 1) := by decide +kernel
theorem d_Lw_law_1251 : decode code 1251 = .ok (.invokevirtual 85, 3) := by decide +kernel
theorem d_Lw_law_1254 : decode code 1254 = .ok (.iload 5, 2) := by decide +kernel
theorem d_Lw_law_1256 : decode code 1256 = .ok (.if_icmp .eq 5, 3) := by decide +kernel
theorem d_Lw_law_1259 : decode code 1259 = .ok (.iconst 0, 1) := by decide +kernel
theorem d_Lw_law_1260 : decode code 1260 = .ok (.ireturn, 1) := by decide +kernel
theorem d_Lw_law_1261 : decode code 1261 = .ok (.goto 3, 3) := by decide +kernel
theorem d_Lw_law_1264 : decode code 1264 = .ok (.iinc 4 7, 3) := by decide +kernel
theorem d_Lw_law_1267 : decode code 1267 = .ok (.goto (-1244), 3) := by decide +kernel
theorem d_Lw_law_1270 : decode code 1270 = .ok (.iconst 1, 1) := by decide +kernel
theorem d_Lw_law_1271 : decode code 1271 = .ok (.ireturn, 1) := by decide +kernel
def F_law_loop (n N : Nat) (xs : Nat → Int32) (f : Nat) (i : Int32) (σ : Mm) : Option (Int32 × Mm) :=
kf_l (α := Int32) f (fun k1 x2 σ3 =>
if ((Int32.ofNat N) - 7) < x2 then (
kf_z 1 (some (1, σ3))) else (
kf_in x2 N <|
kf_j (α := Unit) (fun x5 σ6 =>
kf_let (x2 + Int32.ofInt 7) fun x7 =>
k1 x7 σ6) fun k4 =>
if ((xs x2.toNatClampNeg) &&& 31) = 0 then (
kf_let (x2 + 1 : Int32) fun x8 =>
kf_in x8 N <|
kf_let (x2 + 2 : Int32) fun x9 =>
kf_in x9 N <|
kf_let (x2 + 3 : Int32) fun x10 =>
kf_in x10 N <|
kf_let (x2 + 4 : Int32) fun x11 =>
kf_in x11 N <|
kf_let (x2 + 5 : Int32) fun x12 =>
kf_in x12 N <|
kf_c2 (F_Lw_feed n 1 (xs x8.toNatClampNeg) (xs x9.toNatClampNeg) (xs x10.toNatClampNeg) (xs x11.toNatClampNeg) (xs x12.toNatClampNeg) 62 σ3) fun x13 σ14 =>
kf_let (x2 + 1 : Int32) fun x15 =>
kf_in x15 N <|
kf_let (x2 + 2 : Int32) fun x16 =>
kf_in x16 N <|
kf_let (x2 + 3 : Int32) fun x17 =>
kf_in x17 N <|
kf_let (x2 + 4 : Int32) fun x18 =>
kf_in x18 N <|
kf_let (x2 + 5 : Int32) fun x19 =>
kf_in x19 N <|
kf_c2 (F_Md_feed n 63 (xs x15.toNatClampNeg) (xs x16.toNatClampNeg) (xs x17.toNatClampNeg) (xs x18.toNatClampNeg) (xs x19.toNatClampNeg) σ14) fun x21 σ20 =>
kf_c2 (F_Md_thrown n 63 σ20) fun x23 σ22 =>
if x23 = x13 then (
kf_j (α := Unit) (fun x25 σ26 =>
k4 () σ26) fun k24 =>
if x13 = 0 then (
kf_in 0 (mm_kd 62).2.2 <|
if (lg_cmp (gK σ22 62 (0 : Int32).toNatClampNeg) x21.toInt64) = 0 then (
k24 () σ22) else (
kf_z 0 (some (0, σ22)))) else (
k24 () σ22)) else (
kf_z 0 (some (0, σ22)))) else (
if ((xs x2.toNatClampNeg) &&& 31) = 1 then (
kf_let (x2 + 1 : Int32) fun x28 =>
kf_in x28 N <|
kf_c2 (F_Lw_end n 1 (xs x28.toNatClampNeg) σ3) fun x29 σ30 =>
kf_let (x2 + 1 : Int32) fun x31 =>
kf_in x31 N <|
Option.bind (F_Md_end n 63 (xs x31.toNatClampNeg) σ30) fun σ32 =>
kf_c2 (F_Md_thrown n 63 σ32) fun x34 σ33 =>
if x34 = x29 then (
k4 () σ33) else (
kf_z 0 (some (0, σ33)))) else (
if ((xs x2.toNatClampNeg) &&& 31) = 2 then (
kf_c2 (F_PF_read n 1 σ3) fun x37 σ36 =>
kf_c2 (F_Md_read n 63 σ36) fun x39 σ38 =>
if x37 = x39 then (
k4 () σ38) else (
kf_z 0 (some (0, σ38)))) else (
if ((xs x2.toNatClampNeg) &&& 31) = 3 then (
kf_c2 (F_PF_fault n 1 σ3) fun x42 σ41 =>
kf_c2 (F_Md_fault n 63 σ41) fun x44 σ43 =>
if x42 = x44 then (
k4 () σ43) else (
kf_z 0 (some (0, σ43)))) else (
if ((xs x2.toNatClampNeg) &&& 31) = 4 then (
kf_let (x2 + 1 : Int32) fun x46 =>
kf_in x46 N <|
kf_let (x2 + 2 : Int32) fun x47 =>
kf_in x47 N <|
kf_let (x2 + 3 : Int32) fun x48 =>
kf_in x48 N <|
kf_let (x2 + 4 : Int32) fun x49 =>
kf_in x49 N <|
kf_let (x2 + 5 : Int32) fun x50 =>
kf_in x50 N <|
kf_j (α := Int32 × Int32 × Int32 × Int32 × Int32) (fun x52 σ53 =>
kf_c2 (F_Lw_make n 1 x52.1 x52.2.1 x52.2.2.1 x52.2.2.2.1 x52.2.2.2.2 σ53) fun x54 σ55 =>
kf_let (x2 + 1 : Int32) fun x56 =>
kf_in x56 N <|
kf_let (x2 + 2 : Int32) fun x57 =>
kf_in x57 N <|
kf_let (x2 + 3 : Int32) fun x58 =>
kf_in x58 N <|
kf_let (x2 + 4 : Int32) fun x59 =>
kf_in x59 N <|
kf_let (x2 + 5 : Int32) fun x60 =>
kf_in x60 N <|
kf_j (α := Int32 × Int32 × Int32 × Int32 × Int32) (fun x62 σ63 =>
Option.bind (F_Md_make n 63 x62.1 x62.2.1 x62.2.2.1 x62.2.2.2.1 x62.2.2.2.2 σ63) fun σ64 =>
kf_c2 (F_Md_thrown n 63 σ64) fun x66 σ65 =>
if x66 = x54 then (
k4 () σ65) else (
kf_z 0 (some (0, σ65)))) fun k61 =>
if (xs x60.toNatClampNeg) = 0 then (
k61 (xs x56.toNatClampNeg, xs x57.toNatClampNeg, xs x58.toNatClampNeg, xs x59.toNatClampNeg, 0) σ55) else (
k61 (xs x56.toNatClampNeg, xs x57.toNatClampNeg, xs x58.toNatClampNeg, xs x59.toNatClampNeg, 1) σ55)) fun k51 =>
if (xs x50.toNatClampNeg) = 0 then (
k51 (xs x46.toNatClampNeg, xs x47.toNatClampNeg, xs x48.toNatClampNeg, xs x49.toNatClampNeg, 0) σ3) else (
k51 (xs x46.toNatClampNeg, xs x47.toNatClampNeg, xs x48.toNatClampNeg, xs x49.toNatClampNeg, 1) σ3)) else (
if ((xs x2.toNatClampNeg) &&& 31) = 5 then (
kf_let (x2 + 1 : Int32) fun x68 =>
kf_in x68 N <|
kf_c2 (F_Lw_about n 1 (xs x68.toNatClampNeg) 62 σ3) fun x69 σ70 =>
kf_let (x2 + 1 : Int32) fun x71 =>
kf_in x71 N <|
kf_c2 (F_Md_about n 63 (xs x71.toNatClampNeg) σ70) fun x73 σ72 =>
kf_c2 (F_Md_thrown n 63 σ72) fun x75 σ74 =>
if x75 = x69 then (
kf_j (α := Unit) (fun x77 σ78 =>
k4 () σ78) fun k76 =>
if x69 = 0 then (
kf_in 0 (mm_kd 62).2.2 <|
if (lg_cmp (gK σ74 62 (0 : Int32).toNatClampNeg) x73.toInt64) = 0 then (
k76 () σ74) else (
kf_z 0 (some (0, σ74)))) else (
k76 () σ74)) else (
kf_z 0 (some (0, σ74)))) else (
if ((xs x2.toNatClampNeg) &&& 31) = 6 then (
kf_let (x2 + 1 : Int32) fun x80 =>
kf_in x80 N <|
kf_let (x2 + 2 : Int32) fun x81 =>
kf_in x81 N <|
kf_let (x2 + 3 : Int32) fun x82 =>
kf_in x82 N <|
kf_c2 (F_Lw_sample n 1 (xs x80.toNatClampNeg) (xs x81.toNatClampNeg) (xs x82.toNatClampNeg) 62 σ3) fun x83 σ84 =>
kf_let (x2 + 1 : Int32) fun x85 =>
kf_in x85 N <|
kf_let (x2 + 2 : Int32) fun x86 =>
kf_in x86 N <|
kf_let (x2 + 3 : Int32) fun x87 =>
kf_in x87 N <|
kf_c2 (F_Md_sample n 63 (xs x85.toNatClampNeg) (xs x86.toNatClampNeg) (xs x87.toNatClampNeg) σ84) fun x89 σ88 =>
kf_c2 (F_Md_thrown n 63 σ88) fun x91 σ90 =>
if x91 = x83 then (
kf_j (α := Unit) (fun x93 σ94 =>
k4 () σ94) fun k92 =>
if x83 = 0 then (
kf_in 0 (mm_kd 62).2.2 <|
if (lg_cmp (gK σ90 62 (0 : Int32).toNatClampNeg) x89.toInt64) = 0 then (
k92 () σ90) else (
kf_z 0 (some (0, σ90)))) else (
k92 () σ90)) else (
kf_z 0 (some (0, σ90)))) else (
if ((xs x2.toNatClampNeg) &&& 31) = 7 then (
kf_let (x2 + 1 : Int32) fun x96 =>
kf_in x96 N <|
kf_let (x2 + 2 : Int32) fun x97 =>
kf_in x97 N <|
kf_let (x2 + 3 : Int32) fun x98 =>
kf_in x98 N <|
kf_let (x2 + 4 : Int32) fun x99 =>
kf_in x99 N <|
kf_c2 (F_Lw_set n 1 (xs x96.toNatClampNeg) (xs x97.toNatClampNeg) (xs x98.toNatClampNeg) (xs x99.toNatClampNeg) σ3) fun x100 σ101 =>
kf_let (x2 + 1 : Int32) fun x102 =>
kf_in x102 N <|
kf_let (x2 + 2 : Int32) fun x103 =>
kf_in x103 N <|
kf_let (x2 + 3 : Int32) fun x104 =>
kf_in x104 N <|
kf_let (x2 + 4 : Int32) fun x105 =>
kf_in x105 N <|
Option.bind (F_Md_set n 63 (xs x102.toNatClampNeg) (xs x103.toNatClampNeg) (xs x104.toNatClampNeg) (xs x105.toNatClampNeg) σ101) fun σ106 =>
kf_c2 (F_Md_thrown n 63 σ106) fun x108 σ107 =>
if x108 = x100 then (
k4 () σ107) else (
kf_z 0 (some (0, σ107)))) else (
if ((xs x2.toNatClampNeg) &&& 31) = 8 then (
kf_let (x2 + 1 : Int32) fun x110 =>
kf_in x110 N <|
kf_let (x2 + 2 : Int32) fun x111 =>
kf_in x111 N <|
kf_let (x2 + 3 : Int32) fun x112 =>
kf_in x112 N <|
kf_let (x2 + 4 : Int32) fun x113 =>
kf_in x113 N <|
kf_let (x2 + 5 : Int32) fun x114 =>
kf_in x114 N <|
kf_let (x2 + 6 : Int32) fun x115 =>
kf_in x115 N <|
kf_c2 (F_Lw_fill n 1 (xs x110.toNatClampNeg) (xs x111.toNatClampNeg) (xs x112.toNatClampNeg) (xs x113.toNatClampNeg) (xs x114.toNatClampNeg) (xs x115.toNatClampNeg) σ3) fun x116 σ117 =>
kf_let (x2 + 1 : Int32) fun x118 =>
kf_in x118 N <|
kf_let (x2 + 2 : Int32) fun x119 =>
kf_in x119 N <|
kf_let (x2 + 3 : Int32) fun x120 =>
kf_in x120 N <|
kf_let (x2 + 4 : Int32) fun x121 =>
kf_in x121 N <|
kf_let (x2 + 5 : Int32) fun x122 =>
kf_in x122 N <|
kf_let (x2 + 6 : Int32) fun x123 =>
kf_in x123 N <|
Option.bind (F_Md_fill n 63 (xs x118.toNatClampNeg) (xs x119.toNatClampNeg) (xs x120.toNatClampNeg) (xs x121.toNatClampNeg) (xs x122.toNatClampNeg) (xs x123.toNatClampNeg) σ117) fun σ124 =>
kf_c2 (F_Md_thrown n 63 σ124) fun x126 σ125 =>
if x126 = x116 then (
k4 () σ125) else (
kf_z 0 (some (0, σ125)))) else (
if ((xs x2.toNatClampNeg) &&& 31) = 9 then (
kf_let (x2 + 1 : Int32) fun x128 =>
kf_in x128 N <|
kf_let (x2 + 2 : Int32) fun x129 =>
kf_in x129 N <|
kf_let (x2 + 3 : Int32) fun x130 =>
kf_in x130 N <|
kf_c2 (F_Lw_colour n 1 (xs x128.toNatClampNeg) (xs x129.toNatClampNeg) (xs x130.toNatClampNeg) 62 σ3) fun x131 σ132 =>
kf_let (x2 + 1 : Int32) fun x133 =>
kf_in x133 N <|
kf_let (x2 + 2 : Int32) fun x134 =>
kf_in x134 N <|
kf_let (x2 + 3 : Int32) fun x135 =>
kf_in x135 N <|
kf_c2 (F_Md_colour n 63 (xs x133.toNatClampNeg) (xs x134.toNatClampNeg) (xs x135.toNatClampNeg) σ132) fun x137 σ136 =>
kf_c2 (F_Md_thrown n 63 σ136) fun x139 σ138 =>
if x139 = x131 then (
kf_j (α := Unit) (fun x141 σ142 =>
k4 () σ142) fun k140 =>
if x131 = 0 then (
kf_in 0 (mm_kd 62).2.2 <|
if (lg_cmp (gK σ138 62 (0 : Int32).toNatClampNeg) x137.toInt64) = 0 then (
k140 () σ138) else (
kf_z 0 (some (0, σ138)))) else (
k140 () σ138)) else (
kf_z 0 (some (0, σ138)))) else (
if ((xs x2.toNatClampNeg) &&& 31) = 10 then (
kf_let (x2 + 1 : Int32) fun x144 =>
kf_in x144 N <|
kf_let (x2 + 2 : Int32) fun x145 =>
kf_in x145 N <|
kf_c2 (F_Lw_ofColour n 1 (xs x144.toNatClampNeg) (xs x145.toNatClampNeg) 62 σ3) fun x146 σ147 =>
kf_let (x2 + 1 : Int32) fun x148 =>
kf_in x148 N <|
kf_let (x2 + 2 : Int32) fun x149 =>
kf_in x149 N <|
kf_c2 (F_Md_ofColour n 63 (xs x148.toNatClampNeg) (xs x149.toNatClampNeg) σ147) fun x151 σ150 =>
kf_c2 (F_Md_thrown n 63 σ150) fun x153 σ152 =>
if x153 = x146 then (
kf_j (α := Unit) (fun x155 σ156 =>
k4 () σ156) fun k154 =>
if x146 = 0 then (
kf_in 0 (mm_kd 62).2.2 <|
if (lg_cmp (gK σ152 62 (0 : Int32).toNatClampNeg) x151.toInt64) = 0 then (
k154 () σ152) else (
kf_z 0 (some (0, σ152)))) else (
k154 () σ152)) else (
kf_z 0 (some (0, σ152)))) else (
if ((xs x2.toNatClampNeg) &&& 31) = 11 then (
kf_let (x2 + 1 : Int32) fun x158 =>
kf_in x158 N <|
kf_let (x2 + 2 : Int32) fun x159 =>
kf_in x159 N <|
kf_let (x2 + 3 : Int32) fun x160 =>
kf_in x160 N <|
kf_c2 (F_Lw_thin n 1 (xs x158.toNatClampNeg) (xs x159.toNatClampNeg) (xs x160.toNatClampNeg) 62 σ3) fun x161 σ162 =>
kf_let (x2 + 1 : Int32) fun x163 =>
kf_in x163 N <|
kf_let (x2 + 2 : Int32) fun x164 =>
kf_in x164 N <|
kf_let (x2 + 3 : Int32) fun x165 =>
kf_in x165 N <|
kf_c2 (F_Md_thin n 63 (xs x163.toNatClampNeg) (xs x164.toNatClampNeg) (xs x165.toNatClampNeg) σ162) fun x167 σ166 =>
kf_c2 (F_Md_thrown n 63 σ166) fun x169 σ168 =>
if x169 = x161 then (
kf_j (α := Unit) (fun x171 σ172 =>
k4 () σ172) fun k170 =>
if x161 = 0 then (
kf_in 0 (mm_kd 62).2.2 <|
if (lg_cmp (gK σ168 62 (0 : Int32).toNatClampNeg) x167.toInt64) = 0 then (
k170 () σ168) else (
kf_z 0 (some (0, σ168)))) else (
k170 () σ168)) else (
kf_z 0 (some (0, σ168)))) else (
if ((xs x2.toNatClampNeg) &&& 31) = 12 then (
kf_let (x2 + 1 : Int32) fun x174 =>
kf_in x174 N <|
kf_c2 (F_Lw_ofThin n 1 (xs x174.toNatClampNeg) 62 σ3) fun x175 σ176 =>
kf_let (x2 + 1 : Int32) fun x177 =>
kf_in x177 N <|
kf_c2 (F_Md_ofThin n 63 (xs x177.toNatClampNeg) σ176) fun x179 σ178 =>
kf_c2 (F_Md_thrown n 63 σ178) fun x181 σ180 =>
if x181 = x175 then (
kf_j (α := Unit) (fun x183 σ184 =>
k4 () σ184) fun k182 =>
if x175 = 0 then (
kf_in 0 (mm_kd 62).2.2 <|
if (lg_cmp (gK σ180 62 (0 : Int32).toNatClampNeg) x179.toInt64) = 0 then (
k182 () σ180) else (
kf_z 0 (some (0, σ180)))) else (
k182 () σ180)) else (
kf_z 0 (some (0, σ180)))) else (
if ((xs x2.toNatClampNeg) &&& 31) = 13 then (
kf_let (x2 + 1 : Int32) fun x186 =>
kf_in x186 N <|
kf_c2 (F_Lw_filter n 1 (xs x186.toNatClampNeg) 62 σ3) fun x187 σ188 =>
kf_let (x2 + 1 : Int32) fun x189 =>
kf_in x189 N <|
kf_c2 (F_Md_filter n 63 (xs x189.toNatClampNeg) σ188) fun x191 σ190 =>
kf_c2 (F_Md_thrown n 63 σ190) fun x193 σ192 =>
if x193 = x187 then (
kf_j (α := Unit) (fun x195 σ196 =>
k4 () σ196) fun k194 =>
if x187 = 0 then (
kf_in 0 (mm_kd 62).2.2 <|
if (lg_cmp (gK σ192 62 (0 : Int32).toNatClampNeg) x191.toInt64) = 0 then (
k194 () σ192) else (
kf_z 0 (some (0, σ192)))) else (
k194 () σ192)) else (
kf_z 0 (some (0, σ192)))) else (
if ((xs x2.toNatClampNeg) &&& 31) = 14 then (
kf_let (x2 + 1 : Int32) fun x198 =>
kf_in x198 N <|
kf_j (α := Int32) (fun x200 σ201 =>
kf_c2 (F_Lw_write n 1 x200 62 σ201) fun x202 σ203 =>
kf_let (x2 + 1 : Int32) fun x204 =>
kf_in x204 N <|
kf_j (α := Int32) (fun x206 σ207 =>
kf_c2 (F_Md_write n 63 x206 σ207) fun x209 σ208 =>
kf_c2 (F_Md_thrown n 63 σ208) fun x211 σ210 =>
if x211 = x202 then (
kf_j (α := Unit) (fun x213 σ214 =>
k4 () σ214) fun k212 =>
if x202 = 0 then (
kf_in 0 (mm_kd 62).2.2 <|
if (lg_cmp (gK σ210 62 (0 : Int32).toNatClampNeg) x209.toInt64) = 0 then (
k212 () σ210) else (
kf_z 0 (some (0, σ210)))) else (
k212 () σ210)) else (
kf_z 0 (some (0, σ210)))) fun k205 =>
if (xs x204.toNatClampNeg) = 0 then (
k205 0 σ203) else (
k205 1 σ203)) fun k199 =>
if (xs x198.toNatClampNeg) = 0 then (
k199 0 σ3) else (
k199 1 σ3)) else (
if ((xs x2.toNatClampNeg) &&& 31) = 15 then (
kf_let (x2 + 1 : Int32) fun x216 =>
kf_in x216 N <|
kf_c2 (F_Lw_byteAt n 1 (xs x216.toNatClampNeg) 62 σ3) fun x217 σ218 =>
kf_let (x2 + 1 : Int32) fun x219 =>
kf_in x219 N <|
kf_c2 (F_Md_byteAt n 63 (xs x219.toNatClampNeg) σ218) fun x221 σ220 =>
kf_c2 (F_Md_thrown n 63 σ220) fun x223 σ222 =>
if x223 = x217 then (
kf_j (α := Unit) (fun x225 σ226 =>
k4 () σ226) fun k224 =>
if x217 = 0 then (
kf_in 0 (mm_kd 62).2.2 <|
if (lg_cmp (gK σ222 62 (0 : Int32).toNatClampNeg) x221.toInt64) = 0 then (
k224 () σ222) else (
kf_z 0 (some (0, σ222)))) else (
k224 () σ222)) else (
kf_z 0 (some (0, σ222)))) else (
if ((xs x2.toNatClampNeg) &&& 31) = 16 then (
kf_let (x2 + 1 : Int32) fun x228 =>
kf_in x228 N <|
kf_let (x2 + 2 : Int32) fun x229 =>
kf_in x229 N <|
kf_c2 (F_Lw_spoil n 1 (xs x228.toNatClampNeg) (xs x229.toNatClampNeg) σ3) fun x230 σ231 =>
kf_let (x2 + 1 : Int32) fun x232 =>
kf_in x232 N <|
kf_let (x2 + 2 : Int32) fun x233 =>
kf_in x233 N <|
Option.bind (F_Md_spoil n 63 (xs x232.toNatClampNeg) (xs x233.toNatClampNeg) σ231) fun σ234 =>
kf_c2 (F_Md_thrown n 63 σ234) fun x236 σ235 =>
if x236 = x230 then (
k4 () σ235) else (
kf_z 0 (some (0, σ235)))) else (
if ((xs x2.toNatClampNeg) &&& 31) = 17 then (
kf_let (x2 + 1 : Int32) fun x238 =>
kf_in x238 N <|
kf_let (x2 + 2 : Int32) fun x239 =>
kf_in x239 N <|
kf_c2 (F_Lw_mend n 1 (xs x238.toNatClampNeg) (xs x239.toNatClampNeg) σ3) fun x240 σ241 =>
kf_let (x2 + 1 : Int32) fun x242 =>
kf_in x242 N <|
kf_let (x2 + 2 : Int32) fun x243 =>
kf_in x243 N <|
Option.bind (F_Md_mend n 63 (xs x242.toNatClampNeg) (xs x243.toNatClampNeg) σ241) fun σ244 =>
kf_c2 (F_Md_thrown n 63 σ244) fun x246 σ245 =>
if x246 = x240 then (
k4 () σ245) else (
kf_z 0 (some (0, σ245)))) else (
k4 () σ3)))))))))))))))))))) i σ
set_option maxRecDepth 100000 in
set_option maxHeartbeats 16000000 in
theorem law_loop {l0 : Launch} (hl : l0.stackTraces = false) (n f : Nat) (hf : f ≤ 600) {Γ : kw_G} {ids1 nw1 : List Nat} {ad1 ad : Nat → Nat} {b N : Nat} {xs : Nat → Int32} (C : kw_Cx Γ l0 "PictureFileLaw" code (some .boolean) "law" [] 7 room_1) (Ce : kw_Ce Γ room_1 ids1 nw1 ad1) (hSc : kw_Sc Γ b N xs) (hb0 : ad 0 = b) (ids : List Nat) (h1 : mm_ok ids 1 1 0) (h63 : mm_ok ids 63 1 12) (h62 : mm_ok ids 62 4 0) (hE : ids = ids1 ++ nw1) (hA : ∀ q, q ∉ nw1 → ad q = ad1 q) (c s : Nat) (hc : c + 4 * f ≤ 601024) (hs : s + 24 * f ≤ 7293034) (i : Int32) (σ : Mm) : KW Γ kw_oi ids ad c s (F_law_loop n N xs f i σ) 23 [some (.ref 0), some (.ref 1), some (.ref 63), some (.ref 62), some (.int i), none, none] [] σ := by
  unfold F_law_loop
  refine kw_lb (α := Int32) (pc := 23) (CC := 601024) (SS := 7293034) (Lj := fun x2 => [some (.ref 0), some (.ref 1), some (.ref 63), some (.ref 62), some (.int x2), none, none]) (stj := fun x2 => []) 4 24 (fun c0 s0 k1 hc0 hs0 hk1 x2 σ3 => ?_) f c s hc hs i σ
  have hB1 : c0 + 4 ≤ room_1.cells ∧ s0 + 24 ≤ room_1.slots := ⟨hc0, hs0⟩
  have hB : c0 ≤ room_1.cells ∧ s0 ≤ room_1.slots := ⟨Nat.le_trans (Nat.le_add_right _ _) hc0, Nat.le_trans (Nat.le_add_right _ _) hs0⟩
  refine kw_iload C d_Lw_law_23 rfl ?_
  refine kw_aload_n C d_Lw_law_25 rfl ?_
  refine kw_slen C hSc hb0 d_Lw_law_26 ?_
  refine kw_bipush (v := 7) C d_Lw_law_27 (by decide) ?_
  refine kw_isub C d_Lw_law_29 ?_
  refine kw_icmp_gt (tgt := 1270) C d_Lw_law_30 (by decide) ?_ ?_
  · refine kw_iconst (v := 1) C d_Lw_law_1270 (by decide) ?_
    exact kw_zret C Ce rfl hE hA hB.1 hB.2 rfl d_Lw_law_1271
  · refine kw_aload_n C d_Lw_law_33 rfl ?_
    refine kw_iload C d_Lw_law_34 rfl ?_
    refine kw_sld C hSc hb0 d_Lw_law_36 ?_
    refine kw_bipush (v := 31) C d_Lw_law_37 (by decide) ?_
    refine kw_iand C d_Lw_law_39 ?_
    refine kw_jb (cl2 := (c0 + 4)) (sl2 := (s0 + 24)) (α := Unit) (pcj := 1264) (Lj := fun x5 => [some (.ref 0), some (.ref 1), some (.ref 63), some (.ref 62), some (.int x2), none, none]) (stj := fun x5 => []) (fun x5 σ6 => ?_) (fun k4 hk4 => ?_)
    · refine kw_iincL (L2 := fun x7 => [some (.ref 0), some (.ref 1), some (.ref 63), some (.ref 62), some (.int x7), none, none]) C d_Lw_law_1264 (by decide) rfl (fun _ => rfl) (fun x7 => ?_)
      refine kw_goto (tgt := 23) C d_Lw_law_1267 (by decide) ?_
      exact kw_wk (hk1 x7 σ6) ⟨Or.inr rfl, Or.inr rfl, Or.inr rfl, Or.inr rfl, Or.inr rfl, Or.inl rfl, Or.inl rfl, trivial⟩
    · refine kw_sw ?_ (fun hn27 => ?_)
      · refine kw_tsIn (off := 88) (tgt := 128) C d_Lw_law_40 (by decide) (by decide) (by decide) (by decide) ?_
        refine kw_aload_n C d_Lw_law_128 rfl ?_
        refine kw_aload_n C d_Lw_law_129 rfl ?_
        refine kw_iload C d_Lw_law_130 rfl ?_
        refine kw_iconst (v := 1) C d_Lw_law_132 (by decide) ?_
        refine kw_iadd C d_Lw_law_133 ?_
        refine kw_leti (fun x8 => ?_)
        refine kw_sld C hSc hb0 d_Lw_law_134 ?_
        refine kw_aload_n C d_Lw_law_135 rfl ?_
        refine kw_iload C d_Lw_law_136 rfl ?_
        refine kw_iconst (v := 2) C d_Lw_law_138 (by decide) ?_
        refine kw_iadd C d_Lw_law_139 ?_
        refine kw_leti (fun x9 => ?_)
        refine kw_sld C hSc hb0 d_Lw_law_140 ?_
        refine kw_aload_n C d_Lw_law_141 rfl ?_
        refine kw_iload C d_Lw_law_142 rfl ?_
        refine kw_iconst (v := 3) C d_Lw_law_144 (by decide) ?_
        refine kw_iadd C d_Lw_law_145 ?_
        refine kw_leti (fun x10 => ?_)
        refine kw_sld C hSc hb0 d_Lw_law_146 ?_
        refine kw_aload_n C d_Lw_law_147 rfl ?_
        refine kw_iload C d_Lw_law_148 rfl ?_
        refine kw_iconst (v := 4) C d_Lw_law_150 (by decide) ?_
        refine kw_iadd C d_Lw_law_151 ?_
        refine kw_leti (fun x11 => ?_)
        refine kw_sld C hSc hb0 d_Lw_law_152 ?_
        refine kw_aload_n C d_Lw_law_153 rfl ?_
        refine kw_iload C d_Lw_law_154 rfl ?_
        refine kw_iconst (v := 5) C d_Lw_law_156 (by decide) ?_
        refine kw_iadd C d_Lw_law_157 ?_
        refine kw_leti (fun x12 => ?_)
        refine kw_sld C hSc hb0 d_Lw_law_158 ?_
        refine kw_aload_n C d_Lw_law_159 rfl ?_
        refine kw_callSh (As := [.ref 1, .int (xs x8.toNatClampNeg), .int (xs x9.toNatClampNeg), .int (xs x10.toNatClampNeg), .int (xs x11.toNatClampNeg), .int (xs x12.toNatClampNeg), .ref 62]) (cl' := (c0 + 4)) (sl' := (s0 + 24)) C (c_Lw_feed hl n ids h1 h62 (xs x8.toNatClampNeg) (xs x9.toNatClampNeg) (xs x10.toNatClampNeg) (xs x11.toNatClampNeg) (xs x12.toNatClampNeg) σ3) mh_Lw_feed_79 s_Lw_feed ⟨Nat.le_of_ble_eq_true rfl, Nat.le_of_ble_eq_true rfl⟩ (Nat.le_of_ble_eq_true rfl) hB1 ⟨Nat.add_le_add_left (Nat.le_of_ble_eq_true rfl) _, Nat.add_le_add_left (Nat.le_of_ble_eq_true rfl) _⟩ rfl d_Lw_law_160 (fun x13 σ14 => ?_)
        refine kw_istore (L' := [some (.ref 0), some (.ref 1), some (.ref 63), some (.ref 62), some (.int x2), some (.int x13), none]) C d_Lw_law_163 (by decide) rfl ?_
        refine kw_aload_n C d_Lw_law_165 rfl ?_
        refine kw_aload_n C d_Lw_law_166 rfl ?_
        refine kw_iload C d_Lw_law_167 rfl ?_
        refine kw_iconst (v := 1) C d_Lw_law_169 (by decide) ?_
        refine kw_iadd C d_Lw_law_170 ?_
        refine kw_leti (fun x15 => ?_)
        refine kw_sld C hSc hb0 d_Lw_law_171 ?_
        refine kw_aload_n C d_Lw_law_172 rfl ?_
        refine kw_iload C d_Lw_law_173 rfl ?_
        refine kw_iconst (v := 2) C d_Lw_law_175 (by decide) ?_
        refine kw_iadd C d_Lw_law_176 ?_
        refine kw_leti (fun x16 => ?_)
        refine kw_sld C hSc hb0 d_Lw_law_177 ?_
        refine kw_aload_n C d_Lw_law_178 rfl ?_
        refine kw_iload C d_Lw_law_179 rfl ?_
        refine kw_iconst (v := 3) C d_Lw_law_181 (by decide) ?_
        refine kw_iadd C d_Lw_law_182 ?_
        refine kw_leti (fun x17 => ?_)
        refine kw_sld C hSc hb0 d_Lw_law_183 ?_
        refine kw_aload_n C d_Lw_law_184 rfl ?_
        refine kw_iload C d_Lw_law_185 rfl ?_
        refine kw_iconst (v := 4) C d_Lw_law_187 (by decide) ?_
        refine kw_iadd C d_Lw_law_188 ?_
        refine kw_leti (fun x18 => ?_)
        refine kw_sld C hSc hb0 d_Lw_law_189 ?_
        refine kw_aload_n C d_Lw_law_190 rfl ?_
        refine kw_iload C d_Lw_law_191 rfl ?_
        refine kw_iconst (v := 5) C d_Lw_law_193 (by decide) ?_
        refine kw_iadd C d_Lw_law_194 ?_
        refine kw_leti (fun x19 => ?_)
        refine kw_sld C hSc hb0 d_Lw_law_195 ?_
        refine kw_callV0i (As := [.int (xs x15.toNatClampNeg), .int (xs x16.toNatClampNeg), .int (xs x17.toNatClampNeg), .int (xs x18.toNatClampNeg), .int (xs x19.toNatClampNeg)]) C (c_Md_feed hl n ids h63 (xs x15.toNatClampNeg) (xs x16.toNatClampNeg) (xs x17.toNatClampNeg) (xs x18.toNatClampNeg) (xs x19.toNatClampNeg) σ14) mi_Lw_84 v_Md_feed ⟨_, _, rfl⟩ h63 ⟨Nat.le_of_ble_eq_true rfl, Nat.le_of_ble_eq_true rfl⟩ (Nat.le_of_ble_eq_true rfl) ⟨rfl, rfl⟩ hB1 rfl d_Lw_law_196 (fun x21 σ20 => ?_)
        refine kw_istore (L' := [some (.ref 0), some (.ref 1), some (.ref 63), some (.ref 62), some (.int x2), some (.int x13), some (.int x21)]) C d_Lw_law_199 (by decide) rfl ?_
        refine kw_aload_n C d_Lw_law_201 rfl ?_
        refine kw_callV0i (As := []) C (c_Md_thrown hl n ids h63  σ20) mi_Lw_85 v_Md_thrown ⟨_, _, rfl⟩ h63 ⟨Nat.le_of_ble_eq_true rfl, Nat.le_of_ble_eq_true rfl⟩ (Nat.le_of_ble_eq_true rfl) ⟨rfl, rfl⟩ hB1 rfl d_Lw_law_202 (fun x23 σ22 => ?_)
        refine kw_iload C d_Lw_law_205 rfl ?_
        refine kw_icmp_eq (tgt := 212) C d_Lw_law_207 (by decide) ?_ ?_
        · refine kw_iload C d_Lw_law_212 rfl ?_
          refine kw_j (α := Unit) (pcj := 229) (Lj := fun x25 => [some (.ref 0), some (.ref 1), some (.ref 63), some (.ref 62), some (.int x2), none, none]) (stj := fun x25 => []) (fun x25 σ26 => ?_) (fun k24 hk24 => ?_)
          · refine kw_goto (tgt := 1264) C d_Lw_law_229 (by decide) ?_
            exact kw_wk (hk4 () σ26) ⟨Or.inr rfl, Or.inr rfl, Or.inr rfl, Or.inr rfl, Or.inr rfl, Or.inl rfl, Or.inl rfl, trivial⟩
          · refine kw_if_ne (tgt := 229) C d_Lw_law_214 (by decide) ?_ ?_
            · exact kw_wk (hk24 () σ22) ⟨Or.inr rfl, Or.inr rfl, Or.inr rfl, Or.inr rfl, Or.inr rfl, Or.inl rfl, Or.inl rfl, trivial⟩
            · refine kw_aload_n C d_Lw_law_217 rfl ?_
              refine kw_iconst (v := 0) C d_Lw_law_218 (by decide) ?_
              refine kw_lald C h62 d_Lw_law_219 ?_
              refine kw_iload C d_Lw_law_220 rfl ?_
              refine kw_i2l C d_Lw_law_222 ?_
              refine kw_lcmp C d_Lw_law_223 ?_
              refine kw_if_eq (tgt := 229) C d_Lw_law_224 (by decide) ?_ ?_
              · exact kw_wk (hk24 () σ22) ⟨Or.inr rfl, Or.inr rfl, Or.inr rfl, Or.inr rfl, Or.inr rfl, Or.inl rfl, Or.inl rfl, trivial⟩
              · refine kw_iconst (v := 0) C d_Lw_law_227 (by decide) ?_
                exact kw_zret C Ce rfl hE hA hB1.1 hB1.2 rfl d_Lw_law_228
        · refine kw_iconst (v := 0) C d_Lw_law_210 (by decide) ?_
          exact kw_zret C Ce rfl hE hA hB1.1 hB1.2 rfl d_Lw_law_211
      refine kw_sw ?_ (fun hn35 => ?_)
      · refine kw_tsIn (off := 192) (tgt := 232) C d_Lw_law_40 (by decide) (by decide) (by decide) (by decide) ?_
        refine kw_aload_n C d_Lw_law_232 rfl ?_
        refine kw_aload_n C d_Lw_law_233 rfl ?_
        refine kw_iload C d_Lw_law_234 rfl ?_
        refine kw_iconst (v := 1) C d_Lw_law_236 (by decide) ?_
        refine kw_iadd C d_Lw_law_237 ?_
        refine kw_leti (fun x28 => ?_)
        refine kw_sld C hSc hb0 d_Lw_law_238 ?_
        refine kw_callSh (As := [.ref 1, .int (xs x28.toNatClampNeg)]) (cl' := (c0 + 4)) (sl' := (s0 + 24)) C (c_Lw_end hl n ids h1 (xs x28.toNatClampNeg) σ3) mh_Lw_end_89 s_Lw_end ⟨Nat.le_of_ble_eq_true rfl, Nat.le_of_ble_eq_true rfl⟩ (Nat.le_of_ble_eq_true rfl) hB1 ⟨Nat.add_le_add_left (Nat.le_of_ble_eq_true rfl) _, Nat.add_le_add_left (Nat.le_of_ble_eq_true rfl) _⟩ rfl d_Lw_law_239 (fun x29 σ30 => ?_)
        refine kw_istore (L' := [some (.ref 0), some (.ref 1), some (.ref 63), some (.ref 62), some (.int x2), some (.int x29), none]) C d_Lw_law_242 (by decide) rfl ?_
        refine kw_aload_n C d_Lw_law_244 rfl ?_
        refine kw_aload_n C d_Lw_law_245 rfl ?_
        refine kw_iload C d_Lw_law_246 rfl ?_
        refine kw_iconst (v := 1) C d_Lw_law_248 (by decide) ?_
        refine kw_iadd C d_Lw_law_249 ?_
        refine kw_leti (fun x31 => ?_)
        refine kw_sld C hSc hb0 d_Lw_law_250 ?_
        refine kw_callV0v (As := [.int (xs x31.toNatClampNeg)]) C (c_Md_end hl n ids h63 (xs x31.toNatClampNeg) σ30) mi_Lw_92 v_Md_end ⟨_, _, rfl⟩ h63 ⟨Nat.le_of_ble_eq_true rfl, Nat.le_of_ble_eq_true rfl⟩ (Nat.le_of_ble_eq_true rfl) ⟨rfl, rfl⟩ hB1 rfl d_Lw_law_251 (fun σ32 => ?_)
        refine kw_aload_n C d_Lw_law_254 rfl ?_
        refine kw_callV0i (As := []) C (c_Md_thrown hl n ids h63  σ32) mi_Lw_85 v_Md_thrown ⟨_, _, rfl⟩ h63 ⟨Nat.le_of_ble_eq_true rfl, Nat.le_of_ble_eq_true rfl⟩ (Nat.le_of_ble_eq_true rfl) ⟨rfl, rfl⟩ hB1 rfl d_Lw_law_255 (fun x34 σ33 => ?_)
        refine kw_iload C d_Lw_law_258 rfl ?_
        refine kw_icmp_eq (tgt := 265) C d_Lw_law_260 (by decide) ?_ ?_
        · refine kw_goto (tgt := 1264) C d_Lw_law_265 (by decide) ?_
          exact kw_wk (hk4 () σ33) ⟨Or.inr rfl, Or.inr rfl, Or.inr rfl, Or.inr rfl, Or.inr rfl, Or.inl rfl, Or.inl rfl, trivial⟩
        · refine kw_iconst (v := 0) C d_Lw_law_263 (by decide) ?_
          exact kw_zret C Ce rfl hE hA hB1.1 hB1.2 rfl d_Lw_law_264
      refine kw_sw ?_ (fun hn40 => ?_)
      · refine kw_tsIn (off := 228) (tgt := 268) C d_Lw_law_40 (by decide) (by decide) (by decide) (by decide) ?_
        refine kw_aload_n C d_Lw_law_268 rfl ?_
        refine kw_callV0i (As := []) C (c_PF_read hl n ids h1  σ3) mi_Lw_93 v_PF_read ⟨_, _, rfl⟩ h1 ⟨Nat.le_of_ble_eq_true rfl, Nat.le_of_ble_eq_true rfl⟩ (Nat.le_of_ble_eq_true rfl) ⟨rfl, rfl⟩ hB rfl d_Lw_law_269 (fun x37 σ36 => ?_)
        refine kw_aload_n C d_Lw_law_272 rfl ?_
        refine kw_callV0i (As := []) C (c_Md_read hl n ids h63  σ36) mi_Lw_96 v_Md_read ⟨_, _, rfl⟩ h63 ⟨Nat.le_of_ble_eq_true rfl, Nat.le_of_ble_eq_true rfl⟩ (Nat.le_of_ble_eq_true rfl) ⟨rfl, rfl⟩ hB rfl d_Lw_law_273 (fun x39 σ38 => ?_)
        refine kw_icmp_eq (tgt := 1264) C d_Lw_law_276 (by decide) ?_ ?_
        · refine kw_wide (cl' := (c0 + 4)) (sl' := (s0 + 24)) (Nat.le_add_right _ _) (Nat.le_add_right _ _) ?_
          exact kw_wk (hk4 () σ38) ⟨Or.inr rfl, Or.inr rfl, Or.inr rfl, Or.inr rfl, Or.inr rfl, Or.inl rfl, Or.inl rfl, trivial⟩
        · refine kw_iconst (v := 0) C d_Lw_law_279 (by decide) ?_
          exact kw_zret C Ce rfl hE hA hB.1 hB.2 rfl d_Lw_law_280
      refine kw_sw ?_ (fun hn45 => ?_)
      · refine kw_tsIn (off := 241) (tgt := 281) C d_Lw_law_40 (by decide) (by decide) (by decide) (by decide) ?_
        refine kw_aload_n C d_Lw_law_281 rfl ?_
        refine kw_callV0i (As := []) C (c_PF_fault hl n ids h1  σ3) mi_Lw_97 v_PF_fault ⟨_, _, rfl⟩ h1 ⟨Nat.le_of_ble_eq_true rfl, Nat.le_of_ble_eq_true rfl⟩ (Nat.le_of_ble_eq_true rfl) ⟨rfl, rfl⟩ hB rfl d_Lw_law_282 (fun x42 σ41 => ?_)
        refine kw_aload_n C d_Lw_law_285 rfl ?_
        refine kw_callV0i (As := []) C (c_Md_fault hl n ids h63  σ41) mi_Lw_100 v_Md_fault ⟨_, _, rfl⟩ h63 ⟨Nat.le_of_ble_eq_true rfl, Nat.le_of_ble_eq_true rfl⟩ (Nat.le_of_ble_eq_true rfl) ⟨rfl, rfl⟩ hB rfl d_Lw_law_286 (fun x44 σ43 => ?_)
        refine kw_icmp_eq (tgt := 1264) C d_Lw_law_289 (by decide) ?_ ?_
        · refine kw_wide (cl' := (c0 + 4)) (sl' := (s0 + 24)) (Nat.le_add_right _ _) (Nat.le_add_right _ _) ?_
          exact kw_wk (hk4 () σ43) ⟨Or.inr rfl, Or.inr rfl, Or.inr rfl, Or.inr rfl, Or.inr rfl, Or.inl rfl, Or.inl rfl, trivial⟩
        · refine kw_iconst (v := 0) C d_Lw_law_292 (by decide) ?_
          exact kw_zret C Ce rfl hE hA hB.1 hB.2 rfl d_Lw_law_293
      refine kw_sw ?_ (fun hn67 => ?_)
      · refine kw_tsIn (off := 254) (tgt := 294) C d_Lw_law_40 (by decide) (by decide) (by decide) (by decide) ?_
        refine kw_aload_n C d_Lw_law_294 rfl ?_
        refine kw_aload_n C d_Lw_law_295 rfl ?_
        refine kw_iload C d_Lw_law_296 rfl ?_
        refine kw_iconst (v := 1) C d_Lw_law_298 (by decide) ?_
        refine kw_iadd C d_Lw_law_299 ?_
        refine kw_leti (fun x46 => ?_)
        refine kw_sld C hSc hb0 d_Lw_law_300 ?_
        refine kw_aload_n C d_Lw_law_301 rfl ?_
        refine kw_iload C d_Lw_law_302 rfl ?_
        refine kw_iconst (v := 2) C d_Lw_law_304 (by decide) ?_
        refine kw_iadd C d_Lw_law_305 ?_
        refine kw_leti (fun x47 => ?_)
        refine kw_sld C hSc hb0 d_Lw_law_306 ?_
        refine kw_aload_n C d_Lw_law_307 rfl ?_
        refine kw_iload C d_Lw_law_308 rfl ?_
        refine kw_iconst (v := 3) C d_Lw_law_310 (by decide) ?_
        refine kw_iadd C d_Lw_law_311 ?_
        refine kw_leti (fun x48 => ?_)
        refine kw_sld C hSc hb0 d_Lw_law_312 ?_
        refine kw_aload_n C d_Lw_law_313 rfl ?_
        refine kw_iload C d_Lw_law_314 rfl ?_
        refine kw_iconst (v := 4) C d_Lw_law_316 (by decide) ?_
        refine kw_iadd C d_Lw_law_317 ?_
        refine kw_leti (fun x49 => ?_)
        refine kw_sld C hSc hb0 d_Lw_law_318 ?_
        refine kw_aload_n C d_Lw_law_319 rfl ?_
        refine kw_iload C d_Lw_law_320 rfl ?_
        refine kw_iconst (v := 5) C d_Lw_law_322 (by decide) ?_
        refine kw_iadd C d_Lw_law_323 ?_
        refine kw_leti (fun x50 => ?_)
        refine kw_sld C hSc hb0 d_Lw_law_324 ?_
        refine kw_j (α := Int32 × Int32 × Int32 × Int32 × Int32) (pcj := 333) (Lj := fun x52 => [some (.ref 0), some (.ref 1), some (.ref 63), some (.ref 62), some (.int x2), none, none]) (stj := fun x52 => [.int x52.2.2.2.2, .int x52.2.2.2.1, .int x52.2.2.1, .int x52.2.1, .int x52.1, .ref 1]) (fun x52 σ53 => ?_) (fun k51 hk51 => ?_)
        · refine kw_callSh (As := [.ref 1, .int x52.1, .int x52.2.1, .int x52.2.2.1, .int x52.2.2.2.1, .int x52.2.2.2.2]) (cl' := (c0 + 4)) (sl' := (s0 + 24)) C (c_Lw_make hl n ids h1 x52.1 x52.2.1 x52.2.2.1 x52.2.2.2.1 x52.2.2.2.2 σ53) mh_Lw_make_101 s_Lw_make ⟨Nat.le_of_ble_eq_true rfl, Nat.le_of_ble_eq_true rfl⟩ (Nat.le_of_ble_eq_true rfl) hB1 ⟨Nat.add_le_add_left (Nat.le_of_ble_eq_true rfl) _, Nat.add_le_add_left (Nat.le_of_ble_eq_true rfl) _⟩ rfl d_Lw_law_333 (fun x54 σ55 => ?_)
          refine kw_istore (L' := [some (.ref 0), some (.ref 1), some (.ref 63), some (.ref 62), some (.int x2), some (.int x54), none]) C d_Lw_law_336 (by decide) rfl ?_
          refine kw_aload_n C d_Lw_law_338 rfl ?_
          refine kw_aload_n C d_Lw_law_339 rfl ?_
          refine kw_iload C d_Lw_law_340 rfl ?_
          refine kw_iconst (v := 1) C d_Lw_law_342 (by decide) ?_
          refine kw_iadd C d_Lw_law_343 ?_
          refine kw_leti (fun x56 => ?_)
          refine kw_sld C hSc hb0 d_Lw_law_344 ?_
          refine kw_aload_n C d_Lw_law_345 rfl ?_
          refine kw_iload C d_Lw_law_346 rfl ?_
          refine kw_iconst (v := 2) C d_Lw_law_348 (by decide) ?_
          refine kw_iadd C d_Lw_law_349 ?_
          refine kw_leti (fun x57 => ?_)
          refine kw_sld C hSc hb0 d_Lw_law_350 ?_
          refine kw_aload_n C d_Lw_law_351 rfl ?_
          refine kw_iload C d_Lw_law_352 rfl ?_
          refine kw_iconst (v := 3) C d_Lw_law_354 (by decide) ?_
          refine kw_iadd C d_Lw_law_355 ?_
          refine kw_leti (fun x58 => ?_)
          refine kw_sld C hSc hb0 d_Lw_law_356 ?_
          refine kw_aload_n C d_Lw_law_357 rfl ?_
          refine kw_iload C d_Lw_law_358 rfl ?_
          refine kw_iconst (v := 4) C d_Lw_law_360 (by decide) ?_
          refine kw_iadd C d_Lw_law_361 ?_
          refine kw_leti (fun x59 => ?_)
          refine kw_sld C hSc hb0 d_Lw_law_362 ?_
          refine kw_aload_n C d_Lw_law_363 rfl ?_
          refine kw_iload C d_Lw_law_364 rfl ?_
          refine kw_iconst (v := 5) C d_Lw_law_366 (by decide) ?_
          refine kw_iadd C d_Lw_law_367 ?_
          refine kw_leti (fun x60 => ?_)
          refine kw_sld C hSc hb0 d_Lw_law_368 ?_
          refine kw_j (α := Int32 × Int32 × Int32 × Int32 × Int32) (pcj := 377) (Lj := fun x62 => [some (.ref 0), some (.ref 1), some (.ref 63), some (.ref 62), some (.int x2), some (.int x54), none]) (stj := fun x62 => [.int x62.2.2.2.2, .int x62.2.2.2.1, .int x62.2.2.1, .int x62.2.1, .int x62.1, .ref 63]) (fun x62 σ63 => ?_) (fun k61 hk61 => ?_)
          · refine kw_callV0v (As := [.int x62.1, .int x62.2.1, .int x62.2.2.1, .int x62.2.2.2.1, .int x62.2.2.2.2]) C (c_Md_make hl n ids h63 x62.1 x62.2.1 x62.2.2.1 x62.2.2.2.1 x62.2.2.2.2 σ63) mi_Lw_104 v_Md_make ⟨_, _, rfl⟩ h63 ⟨Nat.le_of_ble_eq_true rfl, Nat.le_of_ble_eq_true rfl⟩ (Nat.le_of_ble_eq_true rfl) ⟨rfl, rfl⟩ hB1 rfl d_Lw_law_377 (fun σ64 => ?_)
            refine kw_aload_n C d_Lw_law_380 rfl ?_
            refine kw_callV0i (As := []) C (c_Md_thrown hl n ids h63  σ64) mi_Lw_85 v_Md_thrown ⟨_, _, rfl⟩ h63 ⟨Nat.le_of_ble_eq_true rfl, Nat.le_of_ble_eq_true rfl⟩ (Nat.le_of_ble_eq_true rfl) ⟨rfl, rfl⟩ hB1 rfl d_Lw_law_381 (fun x66 σ65 => ?_)
            refine kw_iload C d_Lw_law_384 rfl ?_
            refine kw_icmp_eq (tgt := 391) C d_Lw_law_386 (by decide) ?_ ?_
            · refine kw_goto (tgt := 1264) C d_Lw_law_391 (by decide) ?_
              exact kw_wk (hk4 () σ65) ⟨Or.inr rfl, Or.inr rfl, Or.inr rfl, Or.inr rfl, Or.inr rfl, Or.inl rfl, Or.inl rfl, trivial⟩
            · refine kw_iconst (v := 0) C d_Lw_law_389 (by decide) ?_
              exact kw_zret C Ce rfl hE hA hB1.1 hB1.2 rfl d_Lw_law_390
          · refine kw_if_eq (tgt := 376) C d_Lw_law_369 (by decide) ?_ ?_
            · refine kw_iconst (v := 0) C d_Lw_law_376 (by decide) ?_
              exact kw_wk (hk61 (xs x56.toNatClampNeg, xs x57.toNatClampNeg, xs x58.toNatClampNeg, xs x59.toNatClampNeg, 0) σ55) ⟨Or.inr rfl, Or.inr rfl, Or.inr rfl, Or.inr rfl, Or.inr rfl, Or.inr rfl, Or.inl rfl, trivial⟩
            · refine kw_iconst (v := 1) C d_Lw_law_372 (by decide) ?_
              refine kw_goto (tgt := 377) C d_Lw_law_373 (by decide) ?_
              exact kw_wk (hk61 (xs x56.toNatClampNeg, xs x57.toNatClampNeg, xs x58.toNatClampNeg, xs x59.toNatClampNeg, 1) σ55) ⟨Or.inr rfl, Or.inr rfl, Or.inr rfl, Or.inr rfl, Or.inr rfl, Or.inr rfl, Or.inl rfl, trivial⟩
        · refine kw_if_eq (tgt := 332) C d_Lw_law_325 (by decide) ?_ ?_
          · refine kw_iconst (v := 0) C d_Lw_law_332 (by decide) ?_
            exact kw_wk (hk51 (xs x46.toNatClampNeg, xs x47.toNatClampNeg, xs x48.toNatClampNeg, xs x49.toNatClampNeg, 0) σ3) ⟨Or.inr rfl, Or.inr rfl, Or.inr rfl, Or.inr rfl, Or.inr rfl, Or.inl rfl, Or.inl rfl, trivial⟩
          · refine kw_iconst (v := 1) C d_Lw_law_328 (by decide) ?_
            refine kw_goto (tgt := 333) C d_Lw_law_329 (by decide) ?_
            exact kw_wk (hk51 (xs x46.toNatClampNeg, xs x47.toNatClampNeg, xs x48.toNatClampNeg, xs x49.toNatClampNeg, 1) σ3) ⟨Or.inr rfl, Or.inr rfl, Or.inr rfl, Or.inr rfl, Or.inr rfl, Or.inl rfl, Or.inl rfl, trivial⟩
      refine kw_sw ?_ (fun hn79 => ?_)
      · refine kw_tsIn (off := 354) (tgt := 394) C d_Lw_law_40 (by decide) (by decide) (by decide) (by decide) ?_
        refine kw_aload_n C d_Lw_law_394 rfl ?_
        refine kw_aload_n C d_Lw_law_395 rfl ?_
        refine kw_iload C d_Lw_law_396 rfl ?_
        refine kw_iconst (v := 1) C d_Lw_law_398 (by decide) ?_
        refine kw_iadd C d_Lw_law_399 ?_
        refine kw_leti (fun x68 => ?_)
        refine kw_sld C hSc hb0 d_Lw_law_400 ?_
        refine kw_aload_n C d_Lw_law_401 rfl ?_
        refine kw_callSh (As := [.ref 1, .int (xs x68.toNatClampNeg), .ref 62]) (cl' := (c0 + 4)) (sl' := (s0 + 24)) C (c_Lw_about hl n ids h1 h62 (xs x68.toNatClampNeg) σ3) mh_Lw_about_105 s_Lw_about ⟨Nat.le_of_ble_eq_true rfl, Nat.le_of_ble_eq_true rfl⟩ (Nat.le_of_ble_eq_true rfl) hB1 ⟨Nat.add_le_add_left (Nat.le_of_ble_eq_true rfl) _, Nat.add_le_add_left (Nat.le_of_ble_eq_true rfl) _⟩ rfl d_Lw_law_402 (fun x69 σ70 => ?_)
        refine kw_istore (L' := [some (.ref 0), some (.ref 1), some (.ref 63), some (.ref 62), some (.int x2), some (.int x69), none]) C d_Lw_law_405 (by decide) rfl ?_
        refine kw_aload_n C d_Lw_law_407 rfl ?_
        refine kw_aload_n C d_Lw_law_408 rfl ?_
        refine kw_iload C d_Lw_law_409 rfl ?_
        refine kw_iconst (v := 1) C d_Lw_law_411 (by decide) ?_
        refine kw_iadd C d_Lw_law_412 ?_
        refine kw_leti (fun x71 => ?_)
        refine kw_sld C hSc hb0 d_Lw_law_413 ?_
        refine kw_callV0i (As := [.int (xs x71.toNatClampNeg)]) C (c_Md_about hl n ids h63 (xs x71.toNatClampNeg) σ70) mi_Lw_108 v_Md_about ⟨_, _, rfl⟩ h63 ⟨Nat.le_of_ble_eq_true rfl, Nat.le_of_ble_eq_true rfl⟩ (Nat.le_of_ble_eq_true rfl) ⟨rfl, rfl⟩ hB1 rfl d_Lw_law_414 (fun x73 σ72 => ?_)
        refine kw_istore (L' := [some (.ref 0), some (.ref 1), some (.ref 63), some (.ref 62), some (.int x2), some (.int x69), some (.int x73)]) C d_Lw_law_417 (by decide) rfl ?_
        refine kw_aload_n C d_Lw_law_419 rfl ?_
        refine kw_callV0i (As := []) C (c_Md_thrown hl n ids h63  σ72) mi_Lw_85 v_Md_thrown ⟨_, _, rfl⟩ h63 ⟨Nat.le_of_ble_eq_true rfl, Nat.le_of_ble_eq_true rfl⟩ (Nat.le_of_ble_eq_true rfl) ⟨rfl, rfl⟩ hB1 rfl d_Lw_law_420 (fun x75 σ74 => ?_)
        refine kw_iload C d_Lw_law_423 rfl ?_
        refine kw_icmp_eq (tgt := 430) C d_Lw_law_425 (by decide) ?_ ?_
        · refine kw_iload C d_Lw_law_430 rfl ?_
          refine kw_j (α := Unit) (pcj := 447) (Lj := fun x77 => [some (.ref 0), some (.ref 1), some (.ref 63), some (.ref 62), some (.int x2), none, none]) (stj := fun x77 => []) (fun x77 σ78 => ?_) (fun k76 hk76 => ?_)
          · refine kw_goto (tgt := 1264) C d_Lw_law_447 (by decide) ?_
            exact kw_wk (hk4 () σ78) ⟨Or.inr rfl, Or.inr rfl, Or.inr rfl, Or.inr rfl, Or.inr rfl, Or.inl rfl, Or.inl rfl, trivial⟩
          · refine kw_if_ne (tgt := 447) C d_Lw_law_432 (by decide) ?_ ?_
            · exact kw_wk (hk76 () σ74) ⟨Or.inr rfl, Or.inr rfl, Or.inr rfl, Or.inr rfl, Or.inr rfl, Or.inl rfl, Or.inl rfl, trivial⟩
            · refine kw_aload_n C d_Lw_law_435 rfl ?_
              refine kw_iconst (v := 0) C d_Lw_law_436 (by decide) ?_
              refine kw_lald C h62 d_Lw_law_437 ?_
              refine kw_iload C d_Lw_law_438 rfl ?_
              refine kw_i2l C d_Lw_law_440 ?_
              refine kw_lcmp C d_Lw_law_441 ?_
              refine kw_if_eq (tgt := 447) C d_Lw_law_442 (by decide) ?_ ?_
              · exact kw_wk (hk76 () σ74) ⟨Or.inr rfl, Or.inr rfl, Or.inr rfl, Or.inr rfl, Or.inr rfl, Or.inl rfl, Or.inl rfl, trivial⟩
              · refine kw_iconst (v := 0) C d_Lw_law_445 (by decide) ?_
                exact kw_zret C Ce rfl hE hA hB1.1 hB1.2 rfl d_Lw_law_446
        · refine kw_iconst (v := 0) C d_Lw_law_428 (by decide) ?_
          exact kw_zret C Ce rfl hE hA hB1.1 hB1.2 rfl d_Lw_law_429
      refine kw_sw ?_ (fun hn95 => ?_)
      · refine kw_tsIn (off := 410) (tgt := 450) C d_Lw_law_40 (by decide) (by decide) (by decide) (by decide) ?_
        refine kw_aload_n C d_Lw_law_450 rfl ?_
        refine kw_aload_n C d_Lw_law_451 rfl ?_
        refine kw_iload C d_Lw_law_452 rfl ?_
        refine kw_iconst (v := 1) C d_Lw_law_454 (by decide) ?_
        refine kw_iadd C d_Lw_law_455 ?_
        refine kw_leti (fun x80 => ?_)
        refine kw_sld C hSc hb0 d_Lw_law_456 ?_
        refine kw_aload_n C d_Lw_law_457 rfl ?_
        refine kw_iload C d_Lw_law_458 rfl ?_
        refine kw_iconst (v := 2) C d_Lw_law_460 (by decide) ?_
        refine kw_iadd C d_Lw_law_461 ?_
        refine kw_leti (fun x81 => ?_)
        refine kw_sld C hSc hb0 d_Lw_law_462 ?_
        refine kw_aload_n C d_Lw_law_463 rfl ?_
        refine kw_iload C d_Lw_law_464 rfl ?_
        refine kw_iconst (v := 3) C d_Lw_law_466 (by decide) ?_
        refine kw_iadd C d_Lw_law_467 ?_
        refine kw_leti (fun x82 => ?_)
        refine kw_sld C hSc hb0 d_Lw_law_468 ?_
        refine kw_aload_n C d_Lw_law_469 rfl ?_
        refine kw_callSh (As := [.ref 1, .int (xs x80.toNatClampNeg), .int (xs x81.toNatClampNeg), .int (xs x82.toNatClampNeg), .ref 62]) (cl' := (c0 + 4)) (sl' := (s0 + 24)) C (c_Lw_sample hl n ids h1 h62 (xs x80.toNatClampNeg) (xs x81.toNatClampNeg) (xs x82.toNatClampNeg) σ3) mh_Lw_sample_109 s_Lw_sample ⟨Nat.le_of_ble_eq_true rfl, Nat.le_of_ble_eq_true rfl⟩ (Nat.le_of_ble_eq_true rfl) hB1 ⟨Nat.add_le_add_left (Nat.le_of_ble_eq_true rfl) _, Nat.add_le_add_left (Nat.le_of_ble_eq_true rfl) _⟩ rfl d_Lw_law_470 (fun x83 σ84 => ?_)
        refine kw_istore (L' := [some (.ref 0), some (.ref 1), some (.ref 63), some (.ref 62), some (.int x2), some (.int x83), none]) C d_Lw_law_473 (by decide) rfl ?_
        refine kw_aload_n C d_Lw_law_475 rfl ?_
        refine kw_aload_n C d_Lw_law_476 rfl ?_
        refine kw_iload C d_Lw_law_477 rfl ?_
        refine kw_iconst (v := 1) C d_Lw_law_479 (by decide) ?_
        refine kw_iadd C d_Lw_law_480 ?_
        refine kw_leti (fun x85 => ?_)
        refine kw_sld C hSc hb0 d_Lw_law_481 ?_
        refine kw_aload_n C d_Lw_law_482 rfl ?_
        refine kw_iload C d_Lw_law_483 rfl ?_
        refine kw_iconst (v := 2) C d_Lw_law_485 (by decide) ?_
        refine kw_iadd C d_Lw_law_486 ?_
        refine kw_leti (fun x86 => ?_)
        refine kw_sld C hSc hb0 d_Lw_law_487 ?_
        refine kw_aload_n C d_Lw_law_488 rfl ?_
        refine kw_iload C d_Lw_law_489 rfl ?_
        refine kw_iconst (v := 3) C d_Lw_law_491 (by decide) ?_
        refine kw_iadd C d_Lw_law_492 ?_
        refine kw_leti (fun x87 => ?_)
        refine kw_sld C hSc hb0 d_Lw_law_493 ?_
        refine kw_callV0i (As := [.int (xs x85.toNatClampNeg), .int (xs x86.toNatClampNeg), .int (xs x87.toNatClampNeg)]) C (c_Md_sample hl n ids h63 (xs x85.toNatClampNeg) (xs x86.toNatClampNeg) (xs x87.toNatClampNeg) σ84) mi_Lw_112 v_Md_sample ⟨_, _, rfl⟩ h63 ⟨Nat.le_of_ble_eq_true rfl, Nat.le_of_ble_eq_true rfl⟩ (Nat.le_of_ble_eq_true rfl) ⟨rfl, rfl⟩ hB1 rfl d_Lw_law_494 (fun x89 σ88 => ?_)
        refine kw_istore (L' := [some (.ref 0), some (.ref 1), some (.ref 63), some (.ref 62), some (.int x2), some (.int x83), some (.int x89)]) C d_Lw_law_497 (by decide) rfl ?_
        refine kw_aload_n C d_Lw_law_499 rfl ?_
        refine kw_callV0i (As := []) C (c_Md_thrown hl n ids h63  σ88) mi_Lw_85 v_Md_thrown ⟨_, _, rfl⟩ h63 ⟨Nat.le_of_ble_eq_true rfl, Nat.le_of_ble_eq_true rfl⟩ (Nat.le_of_ble_eq_true rfl) ⟨rfl, rfl⟩ hB1 rfl d_Lw_law_500 (fun x91 σ90 => ?_)
        refine kw_iload C d_Lw_law_503 rfl ?_
        refine kw_icmp_eq (tgt := 510) C d_Lw_law_505 (by decide) ?_ ?_
        · refine kw_iload C d_Lw_law_510 rfl ?_
          refine kw_j (α := Unit) (pcj := 527) (Lj := fun x93 => [some (.ref 0), some (.ref 1), some (.ref 63), some (.ref 62), some (.int x2), none, none]) (stj := fun x93 => []) (fun x93 σ94 => ?_) (fun k92 hk92 => ?_)
          · refine kw_goto (tgt := 1264) C d_Lw_law_527 (by decide) ?_
            exact kw_wk (hk4 () σ94) ⟨Or.inr rfl, Or.inr rfl, Or.inr rfl, Or.inr rfl, Or.inr rfl, Or.inl rfl, Or.inl rfl, trivial⟩
          · refine kw_if_ne (tgt := 527) C d_Lw_law_512 (by decide) ?_ ?_
            · exact kw_wk (hk92 () σ90) ⟨Or.inr rfl, Or.inr rfl, Or.inr rfl, Or.inr rfl, Or.inr rfl, Or.inl rfl, Or.inl rfl, trivial⟩
            · refine kw_aload_n C d_Lw_law_515 rfl ?_
              refine kw_iconst (v := 0) C d_Lw_law_516 (by decide) ?_
              refine kw_lald C h62 d_Lw_law_517 ?_
              refine kw_iload C d_Lw_law_518 rfl ?_
              refine kw_i2l C d_Lw_law_520 ?_
              refine kw_lcmp C d_Lw_law_521 ?_
              refine kw_if_eq (tgt := 527) C d_Lw_law_522 (by decide) ?_ ?_
              · exact kw_wk (hk92 () σ90) ⟨Or.inr rfl, Or.inr rfl, Or.inr rfl, Or.inr rfl, Or.inr rfl, Or.inl rfl, Or.inl rfl, trivial⟩
              · refine kw_iconst (v := 0) C d_Lw_law_525 (by decide) ?_
                exact kw_zret C Ce rfl hE hA hB1.1 hB1.2 rfl d_Lw_law_526
        · refine kw_iconst (v := 0) C d_Lw_law_508 (by decide) ?_
          exact kw_zret C Ce rfl hE hA hB1.1 hB1.2 rfl d_Lw_law_509
      refine kw_sw ?_ (fun hn109 => ?_)
      · refine kw_tsIn (off := 490) (tgt := 530) C d_Lw_law_40 (by decide) (by decide) (by decide) (by decide) ?_
        refine kw_aload_n C d_Lw_law_530 rfl ?_
        refine kw_aload_n C d_Lw_law_531 rfl ?_
        refine kw_iload C d_Lw_law_532 rfl ?_
        refine kw_iconst (v := 1) C d_Lw_law_534 (by decide) ?_
        refine kw_iadd C d_Lw_law_535 ?_
        refine kw_leti (fun x96 => ?_)
        refine kw_sld C hSc hb0 d_Lw_law_536 ?_
        refine kw_aload_n C d_Lw_law_537 rfl ?_
        refine kw_iload C d_Lw_law_538 rfl ?_
        refine kw_iconst (v := 2) C d_Lw_law_540 (by decide) ?_
        refine kw_iadd C d_Lw_law_541 ?_
        refine kw_leti (fun x97 => ?_)
        refine kw_sld C hSc hb0 d_Lw_law_542 ?_
        refine kw_aload_n C d_Lw_law_543 rfl ?_
        refine kw_iload C d_Lw_law_544 rfl ?_
        refine kw_iconst (v := 3) C d_Lw_law_546 (by decide) ?_
        refine kw_iadd C d_Lw_law_547 ?_
        refine kw_leti (fun x98 => ?_)
        refine kw_sld C hSc hb0 d_Lw_law_548 ?_
        refine kw_aload_n C d_Lw_law_549 rfl ?_
        refine kw_iload C d_Lw_law_550 rfl ?_
        refine kw_iconst (v := 4) C d_Lw_law_552 (by decide) ?_
        refine kw_iadd C d_Lw_law_553 ?_
        refine kw_leti (fun x99 => ?_)
        refine kw_sld C hSc hb0 d_Lw_law_554 ?_
        refine kw_callSh (As := [.ref 1, .int (xs x96.toNatClampNeg), .int (xs x97.toNatClampNeg), .int (xs x98.toNatClampNeg), .int (xs x99.toNatClampNeg)]) (cl' := (c0 + 4)) (sl' := (s0 + 24)) C (c_Lw_set hl n ids h1 (xs x96.toNatClampNeg) (xs x97.toNatClampNeg) (xs x98.toNatClampNeg) (xs x99.toNatClampNeg) σ3) mh_Lw_set_113 s_Lw_set ⟨Nat.le_of_ble_eq_true rfl, Nat.le_of_ble_eq_true rfl⟩ (Nat.le_of_ble_eq_true rfl) hB1 ⟨Nat.add_le_add_left (Nat.le_of_ble_eq_true rfl) _, Nat.add_le_add_left (Nat.le_of_ble_eq_true rfl) _⟩ rfl d_Lw_law_555 (fun x100 σ101 => ?_)
        refine kw_istore (L' := [some (.ref 0), some (.ref 1), some (.ref 63), some (.ref 62), some (.int x2), some (.int x100), none]) C d_Lw_law_558 (by decide) rfl ?_
        refine kw_aload_n C d_Lw_law_560 rfl ?_
        refine kw_aload_n C d_Lw_law_561 rfl ?_
        refine kw_iload C d_Lw_law_562 rfl ?_
        refine kw_iconst (v := 1) C d_Lw_law_564 (by decide) ?_
        refine kw_iadd C d_Lw_law_565 ?_
        refine kw_leti (fun x102 => ?_)
        refine kw_sld C hSc hb0 d_Lw_law_566 ?_
        refine kw_aload_n C d_Lw_law_567 rfl ?_
        refine kw_iload C d_Lw_law_568 rfl ?_
        refine kw_iconst (v := 2) C d_Lw_law_570 (by decide) ?_
        refine kw_iadd C d_Lw_law_571 ?_
        refine kw_leti (fun x103 => ?_)
        refine kw_sld C hSc hb0 d_Lw_law_572 ?_
        refine kw_aload_n C d_Lw_law_573 rfl ?_
        refine kw_iload C d_Lw_law_574 rfl ?_
        refine kw_iconst (v := 3) C d_Lw_law_576 (by decide) ?_
        refine kw_iadd C d_Lw_law_577 ?_
        refine kw_leti (fun x104 => ?_)
        refine kw_sld C hSc hb0 d_Lw_law_578 ?_
        refine kw_aload_n C d_Lw_law_579 rfl ?_
        refine kw_iload C d_Lw_law_580 rfl ?_
        refine kw_iconst (v := 4) C d_Lw_law_582 (by decide) ?_
        refine kw_iadd C d_Lw_law_583 ?_
        refine kw_leti (fun x105 => ?_)
        refine kw_sld C hSc hb0 d_Lw_law_584 ?_
        refine kw_callV0v (As := [.int (xs x102.toNatClampNeg), .int (xs x103.toNatClampNeg), .int (xs x104.toNatClampNeg), .int (xs x105.toNatClampNeg)]) C (c_Md_set hl n ids h63 (xs x102.toNatClampNeg) (xs x103.toNatClampNeg) (xs x104.toNatClampNeg) (xs x105.toNatClampNeg) σ101) mi_Lw_116 v_Md_set ⟨_, _, rfl⟩ h63 ⟨Nat.le_of_ble_eq_true rfl, Nat.le_of_ble_eq_true rfl⟩ (Nat.le_of_ble_eq_true rfl) ⟨rfl, rfl⟩ hB1 rfl d_Lw_law_585 (fun σ106 => ?_)
        refine kw_aload_n C d_Lw_law_588 rfl ?_
        refine kw_callV0i (As := []) C (c_Md_thrown hl n ids h63  σ106) mi_Lw_85 v_Md_thrown ⟨_, _, rfl⟩ h63 ⟨Nat.le_of_ble_eq_true rfl, Nat.le_of_ble_eq_true rfl⟩ (Nat.le_of_ble_eq_true rfl) ⟨rfl, rfl⟩ hB1 rfl d_Lw_law_589 (fun x108 σ107 => ?_)
        refine kw_iload C d_Lw_law_592 rfl ?_
        refine kw_icmp_eq (tgt := 599) C d_Lw_law_594 (by decide) ?_ ?_
        · refine kw_goto (tgt := 1264) C d_Lw_law_599 (by decide) ?_
          exact kw_wk (hk4 () σ107) ⟨Or.inr rfl, Or.inr rfl, Or.inr rfl, Or.inr rfl, Or.inr rfl, Or.inl rfl, Or.inl rfl, trivial⟩
        · refine kw_iconst (v := 0) C d_Lw_law_597 (by decide) ?_
          exact kw_zret C Ce rfl hE hA hB1.1 hB1.2 rfl d_Lw_law_598
      refine kw_sw ?_ (fun hn127 => ?_)
      · refine kw_tsIn (off := 562) (tgt := 602) C d_Lw_law_40 (by decide) (by decide) (by decide) (by decide) ?_
        refine kw_aload_n C d_Lw_law_602 rfl ?_
        refine kw_aload_n C d_Lw_law_603 rfl ?_
        refine kw_iload C d_Lw_law_604 rfl ?_
        refine kw_iconst (v := 1) C d_Lw_law_606 (by decide) ?_
        refine kw_iadd C d_Lw_law_607 ?_
        refine kw_leti (fun x110 => ?_)
        refine kw_sld C hSc hb0 d_Lw_law_608 ?_
        refine kw_aload_n C d_Lw_law_609 rfl ?_
        refine kw_iload C d_Lw_law_610 rfl ?_
        refine kw_iconst (v := 2) C d_Lw_law_612 (by decide) ?_
        refine kw_iadd C d_Lw_law_613 ?_
        refine kw_leti (fun x111 => ?_)
        refine kw_sld C hSc hb0 d_Lw_law_614 ?_
        refine kw_aload_n C d_Lw_law_615 rfl ?_
        refine kw_iload C d_Lw_law_616 rfl ?_
        refine kw_iconst (v := 3) C d_Lw_law_618 (by decide) ?_
        refine kw_iadd C d_Lw_law_619 ?_
        refine kw_leti (fun x112 => ?_)
        refine kw_sld C hSc hb0 d_Lw_law_620 ?_
        refine kw_aload_n C d_Lw_law_621 rfl ?_
        refine kw_iload C d_Lw_law_622 rfl ?_
        refine kw_iconst (v := 4) C d_Lw_law_624 (by decide) ?_
        refine kw_iadd C d_Lw_law_625 ?_
        refine kw_leti (fun x113 => ?_)
        refine kw_sld C hSc hb0 d_Lw_law_626 ?_
        refine kw_aload_n C d_Lw_law_627 rfl ?_
        refine kw_iload C d_Lw_law_628 rfl ?_
        refine kw_iconst (v := 5) C d_Lw_law_630 (by decide) ?_
        refine kw_iadd C d_Lw_law_631 ?_
        refine kw_leti (fun x114 => ?_)
        refine kw_sld C hSc hb0 d_Lw_law_632 ?_
        refine kw_aload_n C d_Lw_law_633 rfl ?_
        refine kw_iload C d_Lw_law_634 rfl ?_
        refine kw_bipush (v := 6) C d_Lw_law_636 (by decide) ?_
        refine kw_iadd C d_Lw_law_638 ?_
        refine kw_leti (fun x115 => ?_)
        refine kw_sld C hSc hb0 d_Lw_law_639 ?_
        refine kw_callSh (As := [.ref 1, .int (xs x110.toNatClampNeg), .int (xs x111.toNatClampNeg), .int (xs x112.toNatClampNeg), .int (xs x113.toNatClampNeg), .int (xs x114.toNatClampNeg), .int (xs x115.toNatClampNeg)]) (cl' := (c0 + 4)) (sl' := (s0 + 24)) C (c_Lw_fill hl n ids h1 (xs x110.toNatClampNeg) (xs x111.toNatClampNeg) (xs x112.toNatClampNeg) (xs x113.toNatClampNeg) (xs x114.toNatClampNeg) (xs x115.toNatClampNeg) σ3) mh_Lw_fill_117 s_Lw_fill ⟨Nat.le_of_ble_eq_true rfl, Nat.le_of_ble_eq_true rfl⟩ (Nat.le_of_ble_eq_true rfl) hB1 ⟨Nat.add_le_add_left (Nat.le_of_ble_eq_true rfl) _, Nat.add_le_add_left (Nat.le_of_ble_eq_true rfl) _⟩ rfl d_Lw_law_640 (fun x116 σ117 => ?_)
        refine kw_istore (L' := [some (.ref 0), some (.ref 1), some (.ref 63), some (.ref 62), some (.int x2), some (.int x116), none]) C d_Lw_law_643 (by decide) rfl ?_
        refine kw_aload_n C d_Lw_law_645 rfl ?_
        refine kw_aload_n C d_Lw_law_646 rfl ?_
        refine kw_iload C d_Lw_law_647 rfl ?_
        refine kw_iconst (v := 1) C d_Lw_law_649 (by decide) ?_
        refine kw_iadd C d_Lw_law_650 ?_
        refine kw_leti (fun x118 => ?_)
        refine kw_sld C hSc hb0 d_Lw_law_651 ?_
        refine kw_aload_n C d_Lw_law_652 rfl ?_
        refine kw_iload C d_Lw_law_653 rfl ?_
        refine kw_iconst (v := 2) C d_Lw_law_655 (by decide) ?_
        refine kw_iadd C d_Lw_law_656 ?_
        refine kw_leti (fun x119 => ?_)
        refine kw_sld C hSc hb0 d_Lw_law_657 ?_
        refine kw_aload_n C d_Lw_law_658 rfl ?_
        refine kw_iload C d_Lw_law_659 rfl ?_
        refine kw_iconst (v := 3) C d_Lw_law_661 (by decide) ?_
        refine kw_iadd C d_Lw_law_662 ?_
        refine kw_leti (fun x120 => ?_)
        refine kw_sld C hSc hb0 d_Lw_law_663 ?_
        refine kw_aload_n C d_Lw_law_664 rfl ?_
        refine kw_iload C d_Lw_law_665 rfl ?_
        refine kw_iconst (v := 4) C d_Lw_law_667 (by decide) ?_
        refine kw_iadd C d_Lw_law_668 ?_
        refine kw_leti (fun x121 => ?_)
        refine kw_sld C hSc hb0 d_Lw_law_669 ?_
        refine kw_aload_n C d_Lw_law_670 rfl ?_
        refine kw_iload C d_Lw_law_671 rfl ?_
        refine kw_iconst (v := 5) C d_Lw_law_673 (by decide) ?_
        refine kw_iadd C d_Lw_law_674 ?_
        refine kw_leti (fun x122 => ?_)
        refine kw_sld C hSc hb0 d_Lw_law_675 ?_
        refine kw_aload_n C d_Lw_law_676 rfl ?_
        refine kw_iload C d_Lw_law_677 rfl ?_
        refine kw_bipush (v := 6) C d_Lw_law_679 (by decide) ?_
        refine kw_iadd C d_Lw_law_681 ?_
        refine kw_leti (fun x123 => ?_)
        refine kw_sld C hSc hb0 d_Lw_law_682 ?_
        refine kw_callV0v (As := [.int (xs x118.toNatClampNeg), .int (xs x119.toNatClampNeg), .int (xs x120.toNatClampNeg), .int (xs x121.toNatClampNeg), .int (xs x122.toNatClampNeg), .int (xs x123.toNatClampNeg)]) C (c_Md_fill hl n ids h63 (xs x118.toNatClampNeg) (xs x119.toNatClampNeg) (xs x120.toNatClampNeg) (xs x121.toNatClampNeg) (xs x122.toNatClampNeg) (xs x123.toNatClampNeg) σ117) mi_Lw_120 v_Md_fill ⟨_, _, rfl⟩ h63 ⟨Nat.le_of_ble_eq_true rfl, Nat.le_of_ble_eq_true rfl⟩ (Nat.le_of_ble_eq_true rfl) ⟨rfl, rfl⟩ hB1 rfl d_Lw_law_683 (fun σ124 => ?_)
        refine kw_aload_n C d_Lw_law_686 rfl ?_
        refine kw_callV0i (As := []) C (c_Md_thrown hl n ids h63  σ124) mi_Lw_85 v_Md_thrown ⟨_, _, rfl⟩ h63 ⟨Nat.le_of_ble_eq_true rfl, Nat.le_of_ble_eq_true rfl⟩ (Nat.le_of_ble_eq_true rfl) ⟨rfl, rfl⟩ hB1 rfl d_Lw_law_687 (fun x126 σ125 => ?_)
        refine kw_iload C d_Lw_law_690 rfl ?_
        refine kw_icmp_eq (tgt := 697) C d_Lw_law_692 (by decide) ?_ ?_
        · refine kw_goto (tgt := 1264) C d_Lw_law_697 (by decide) ?_
          exact kw_wk (hk4 () σ125) ⟨Or.inr rfl, Or.inr rfl, Or.inr rfl, Or.inr rfl, Or.inr rfl, Or.inl rfl, Or.inl rfl, trivial⟩
        · refine kw_iconst (v := 0) C d_Lw_law_695 (by decide) ?_
          exact kw_zret C Ce rfl hE hA hB1.1 hB1.2 rfl d_Lw_law_696
      refine kw_sw ?_ (fun hn143 => ?_)
      · refine kw_tsIn (off := 660) (tgt := 700) C d_Lw_law_40 (by decide) (by decide) (by decide) (by decide) ?_
        refine kw_aload_n C d_Lw_law_700 rfl ?_
        refine kw_aload_n C d_Lw_law_701 rfl ?_
        refine kw_iload C d_Lw_law_702 rfl ?_
        refine kw_iconst (v := 1) C d_Lw_law_704 (by decide) ?_
        refine kw_iadd C d_Lw_law_705 ?_
        refine kw_leti (fun x128 => ?_)
        refine kw_sld C hSc hb0 d_Lw_law_706 ?_
        refine kw_aload_n C d_Lw_law_707 rfl ?_
        refine kw_iload C d_Lw_law_708 rfl ?_
        refine kw_iconst (v := 2) C d_Lw_law_710 (by decide) ?_
        refine kw_iadd C d_Lw_law_711 ?_
        refine kw_leti (fun x129 => ?_)
        refine kw_sld C hSc hb0 d_Lw_law_712 ?_
        refine kw_aload_n C d_Lw_law_713 rfl ?_
        refine kw_iload C d_Lw_law_714 rfl ?_
        refine kw_iconst (v := 3) C d_Lw_law_716 (by decide) ?_
        refine kw_iadd C d_Lw_law_717 ?_
        refine kw_leti (fun x130 => ?_)
        refine kw_sld C hSc hb0 d_Lw_law_718 ?_
        refine kw_aload_n C d_Lw_law_719 rfl ?_
        refine kw_callSh (As := [.ref 1, .int (xs x128.toNatClampNeg), .int (xs x129.toNatClampNeg), .int (xs x130.toNatClampNeg), .ref 62]) (cl' := (c0 + 4)) (sl' := (s0 + 24)) C (c_Lw_colour hl n ids h1 h62 (xs x128.toNatClampNeg) (xs x129.toNatClampNeg) (xs x130.toNatClampNeg) σ3) mh_Lw_colour_121 s_Lw_colour ⟨Nat.le_of_ble_eq_true rfl, Nat.le_of_ble_eq_true rfl⟩ (Nat.le_of_ble_eq_true rfl) hB1 ⟨Nat.add_le_add_left (Nat.le_of_ble_eq_true rfl) _, Nat.add_le_add_left (Nat.le_of_ble_eq_true rfl) _⟩ rfl d_Lw_law_720 (fun x131 σ132 => ?_)
        refine kw_istore (L' := [some (.ref 0), some (.ref 1), some (.ref 63), some (.ref 62), some (.int x2), some (.int x131), none]) C d_Lw_law_723 (by decide) rfl ?_
        refine kw_aload_n C d_Lw_law_725 rfl ?_
        refine kw_aload_n C d_Lw_law_726 rfl ?_
        refine kw_iload C d_Lw_law_727 rfl ?_
        refine kw_iconst (v := 1) C d_Lw_law_729 (by decide) ?_
        refine kw_iadd C d_Lw_law_730 ?_
        refine kw_leti (fun x133 => ?_)
        refine kw_sld C hSc hb0 d_Lw_law_731 ?_
        refine kw_aload_n C d_Lw_law_732 rfl ?_
        refine kw_iload C d_Lw_law_733 rfl ?_
        refine kw_iconst (v := 2) C d_Lw_law_735 (by decide) ?_
        refine kw_iadd C d_Lw_law_736 ?_
        refine kw_leti (fun x134 => ?_)
        refine kw_sld C hSc hb0 d_Lw_law_737 ?_
        refine kw_aload_n C d_Lw_law_738 rfl ?_
        refine kw_iload C d_Lw_law_739 rfl ?_
        refine kw_iconst (v := 3) C d_Lw_law_741 (by decide) ?_
        refine kw_iadd C d_Lw_law_742 ?_
        refine kw_leti (fun x135 => ?_)
        refine kw_sld C hSc hb0 d_Lw_law_743 ?_
        refine kw_callV0i (As := [.int (xs x133.toNatClampNeg), .int (xs x134.toNatClampNeg), .int (xs x135.toNatClampNeg)]) C (c_Md_colour hl n ids h63 (xs x133.toNatClampNeg) (xs x134.toNatClampNeg) (xs x135.toNatClampNeg) σ132) mi_Lw_123 v_Md_colour ⟨_, _, rfl⟩ h63 ⟨Nat.le_of_ble_eq_true rfl, Nat.le_of_ble_eq_true rfl⟩ (Nat.le_of_ble_eq_true rfl) ⟨rfl, rfl⟩ hB1 rfl d_Lw_law_744 (fun x137 σ136 => ?_)
        refine kw_istore (L' := [some (.ref 0), some (.ref 1), some (.ref 63), some (.ref 62), some (.int x2), some (.int x131), some (.int x137)]) C d_Lw_law_747 (by decide) rfl ?_
        refine kw_aload_n C d_Lw_law_749 rfl ?_
        refine kw_callV0i (As := []) C (c_Md_thrown hl n ids h63  σ136) mi_Lw_85 v_Md_thrown ⟨_, _, rfl⟩ h63 ⟨Nat.le_of_ble_eq_true rfl, Nat.le_of_ble_eq_true rfl⟩ (Nat.le_of_ble_eq_true rfl) ⟨rfl, rfl⟩ hB1 rfl d_Lw_law_750 (fun x139 σ138 => ?_)
        refine kw_iload C d_Lw_law_753 rfl ?_
        refine kw_icmp_eq (tgt := 760) C d_Lw_law_755 (by decide) ?_ ?_
        · refine kw_iload C d_Lw_law_760 rfl ?_
          refine kw_j (α := Unit) (pcj := 777) (Lj := fun x141 => [some (.ref 0), some (.ref 1), some (.ref 63), some (.ref 62), some (.int x2), none, none]) (stj := fun x141 => []) (fun x141 σ142 => ?_) (fun k140 hk140 => ?_)
          · refine kw_goto (tgt := 1264) C d_Lw_law_777 (by decide) ?_
            exact kw_wk (hk4 () σ142) ⟨Or.inr rfl, Or.inr rfl, Or.inr rfl, Or.inr rfl, Or.inr rfl, Or.inl rfl, Or.inl rfl, trivial⟩
          · refine kw_if_ne (tgt := 777) C d_Lw_law_762 (by decide) ?_ ?_
            · exact kw_wk (hk140 () σ138) ⟨Or.inr rfl, Or.inr rfl, Or.inr rfl, Or.inr rfl, Or.inr rfl, Or.inl rfl, Or.inl rfl, trivial⟩
            · refine kw_aload_n C d_Lw_law_765 rfl ?_
              refine kw_iconst (v := 0) C d_Lw_law_766 (by decide) ?_
              refine kw_lald C h62 d_Lw_law_767 ?_
              refine kw_iload C d_Lw_law_768 rfl ?_
              refine kw_i2l C d_Lw_law_770 ?_
              refine kw_lcmp C d_Lw_law_771 ?_
              refine kw_if_eq (tgt := 777) C d_Lw_law_772 (by decide) ?_ ?_
              · exact kw_wk (hk140 () σ138) ⟨Or.inr rfl, Or.inr rfl, Or.inr rfl, Or.inr rfl, Or.inr rfl, Or.inl rfl, Or.inl rfl, trivial⟩
              · refine kw_iconst (v := 0) C d_Lw_law_775 (by decide) ?_
                exact kw_zret C Ce rfl hE hA hB1.1 hB1.2 rfl d_Lw_law_776
        · refine kw_iconst (v := 0) C d_Lw_law_758 (by decide) ?_
          exact kw_zret C Ce rfl hE hA hB1.1 hB1.2 rfl d_Lw_law_759
      refine kw_sw ?_ (fun hn157 => ?_)
      · refine kw_tsIn (off := 740) (tgt := 780) C d_Lw_law_40 (by decide) (by decide) (by decide) (by decide) ?_
        refine kw_aload_n C d_Lw_law_780 rfl ?_
        refine kw_aload_n C d_Lw_law_781 rfl ?_
        refine kw_iload C d_Lw_law_782 rfl ?_
        refine kw_iconst (v := 1) C d_Lw_law_784 (by decide) ?_
        refine kw_iadd C d_Lw_law_785 ?_
        refine kw_leti (fun x144 => ?_)
        refine kw_sld C hSc hb0 d_Lw_law_786 ?_
        refine kw_aload_n C d_Lw_law_787 rfl ?_
        refine kw_iload C d_Lw_law_788 rfl ?_
        refine kw_iconst (v := 2) C d_Lw_law_790 (by decide) ?_
        refine kw_iadd C d_Lw_law_791 ?_
        refine kw_leti (fun x145 => ?_)
        refine kw_sld C hSc hb0 d_Lw_law_792 ?_
        refine kw_aload_n C d_Lw_law_793 rfl ?_
        refine kw_callSh (As := [.ref 1, .int (xs x144.toNatClampNeg), .int (xs x145.toNatClampNeg), .ref 62]) (cl' := (c0 + 4)) (sl' := (s0 + 24)) C (c_Lw_ofColour hl n ids h1 h62 (xs x144.toNatClampNeg) (xs x145.toNatClampNeg) σ3) mh_Lw_ofColour_124 s_Lw_ofColour ⟨Nat.le_of_ble_eq_true rfl, Nat.le_of_ble_eq_true rfl⟩ (Nat.le_of_ble_eq_true rfl) hB1 ⟨Nat.add_le_add_left (Nat.le_of_ble_eq_true rfl) _, Nat.add_le_add_left (Nat.le_of_ble_eq_true rfl) _⟩ rfl d_Lw_law_794 (fun x146 σ147 => ?_)
        refine kw_istore (L' := [some (.ref 0), some (.ref 1), some (.ref 63), some (.ref 62), some (.int x2), some (.int x146), none]) C d_Lw_law_797 (by decide) rfl ?_
        refine kw_aload_n C d_Lw_law_799 rfl ?_
        refine kw_aload_n C d_Lw_law_800 rfl ?_
        refine kw_iload C d_Lw_law_801 rfl ?_
        refine kw_iconst (v := 1) C d_Lw_law_803 (by decide) ?_
        refine kw_iadd C d_Lw_law_804 ?_
        refine kw_leti (fun x148 => ?_)
        refine kw_sld C hSc hb0 d_Lw_law_805 ?_
        refine kw_aload_n C d_Lw_law_806 rfl ?_
        refine kw_iload C d_Lw_law_807 rfl ?_
        refine kw_iconst (v := 2) C d_Lw_law_809 (by decide) ?_
        refine kw_iadd C d_Lw_law_810 ?_
        refine kw_leti (fun x149 => ?_)
        refine kw_sld C hSc hb0 d_Lw_law_811 ?_
        refine kw_callV0i (As := [.int (xs x148.toNatClampNeg), .int (xs x149.toNatClampNeg)]) C (c_Md_ofColour hl n ids h63 (xs x148.toNatClampNeg) (xs x149.toNatClampNeg) σ147) mi_Lw_127 v_Md_ofColour ⟨_, _, rfl⟩ h63 ⟨Nat.le_of_ble_eq_true rfl, Nat.le_of_ble_eq_true rfl⟩ (Nat.le_of_ble_eq_true rfl) ⟨rfl, rfl⟩ hB1 rfl d_Lw_law_812 (fun x151 σ150 => ?_)
        refine kw_istore (L' := [some (.ref 0), some (.ref 1), some (.ref 63), some (.ref 62), some (.int x2), some (.int x146), some (.int x151)]) C d_Lw_law_815 (by decide) rfl ?_
        refine kw_aload_n C d_Lw_law_817 rfl ?_
        refine kw_callV0i (As := []) C (c_Md_thrown hl n ids h63  σ150) mi_Lw_85 v_Md_thrown ⟨_, _, rfl⟩ h63 ⟨Nat.le_of_ble_eq_true rfl, Nat.le_of_ble_eq_true rfl⟩ (Nat.le_of_ble_eq_true rfl) ⟨rfl, rfl⟩ hB1 rfl d_Lw_law_818 (fun x153 σ152 => ?_)
        refine kw_iload C d_Lw_law_821 rfl ?_
        refine kw_icmp_eq (tgt := 828) C d_Lw_law_823 (by decide) ?_ ?_
        · refine kw_iload C d_Lw_law_828 rfl ?_
          refine kw_j (α := Unit) (pcj := 845) (Lj := fun x155 => [some (.ref 0), some (.ref 1), some (.ref 63), some (.ref 62), some (.int x2), none, none]) (stj := fun x155 => []) (fun x155 σ156 => ?_) (fun k154 hk154 => ?_)
          · refine kw_goto (tgt := 1264) C d_Lw_law_845 (by decide) ?_
            exact kw_wk (hk4 () σ156) ⟨Or.inr rfl, Or.inr rfl, Or.inr rfl, Or.inr rfl, Or.inr rfl, Or.inl rfl, Or.inl rfl, trivial⟩
          · refine kw_if_ne (tgt := 845) C d_Lw_law_830 (by decide) ?_ ?_
            · exact kw_wk (hk154 () σ152) ⟨Or.inr rfl, Or.inr rfl, Or.inr rfl, Or.inr rfl, Or.inr rfl, Or.inl rfl, Or.inl rfl, trivial⟩
            · refine kw_aload_n C d_Lw_law_833 rfl ?_
              refine kw_iconst (v := 0) C d_Lw_law_834 (by decide) ?_
              refine kw_lald C h62 d_Lw_law_835 ?_
              refine kw_iload C d_Lw_law_836 rfl ?_
              refine kw_i2l C d_Lw_law_838 ?_
              refine kw_lcmp C d_Lw_law_839 ?_
              refine kw_if_eq (tgt := 845) C d_Lw_law_840 (by decide) ?_ ?_
              · exact kw_wk (hk154 () σ152) ⟨Or.inr rfl, Or.inr rfl, Or.inr rfl, Or.inr rfl, Or.inr rfl, Or.inl rfl, Or.inl rfl, trivial⟩
              · refine kw_iconst (v := 0) C d_Lw_law_843 (by decide) ?_
                exact kw_zret C Ce rfl hE hA hB1.1 hB1.2 rfl d_Lw_law_844
        · refine kw_iconst (v := 0) C d_Lw_law_826 (by decide) ?_
          exact kw_zret C Ce rfl hE hA hB1.1 hB1.2 rfl d_Lw_law_827
      refine kw_sw ?_ (fun hn173 => ?_)
      · refine kw_tsIn (off := 808) (tgt := 848) C d_Lw_law_40 (by decide) (by decide) (by decide) (by decide) ?_
        refine kw_aload_n C d_Lw_law_848 rfl ?_
        refine kw_aload_n C d_Lw_law_849 rfl ?_
        refine kw_iload C d_Lw_law_850 rfl ?_
        refine kw_iconst (v := 1) C d_Lw_law_852 (by decide) ?_
        refine kw_iadd C d_Lw_law_853 ?_
        refine kw_leti (fun x158 => ?_)
        refine kw_sld C hSc hb0 d_Lw_law_854 ?_
        refine kw_aload_n C d_Lw_law_855 rfl ?_
        refine kw_iload C d_Lw_law_856 rfl ?_
        refine kw_iconst (v := 2) C d_Lw_law_858 (by decide) ?_
        refine kw_iadd C d_Lw_law_859 ?_
        refine kw_leti (fun x159 => ?_)
        refine kw_sld C hSc hb0 d_Lw_law_860 ?_
        refine kw_aload_n C d_Lw_law_861 rfl ?_
        refine kw_iload C d_Lw_law_862 rfl ?_
        refine kw_iconst (v := 3) C d_Lw_law_864 (by decide) ?_
        refine kw_iadd C d_Lw_law_865 ?_
        refine kw_leti (fun x160 => ?_)
        refine kw_sld C hSc hb0 d_Lw_law_866 ?_
        refine kw_aload_n C d_Lw_law_867 rfl ?_
        refine kw_callSh (As := [.ref 1, .int (xs x158.toNatClampNeg), .int (xs x159.toNatClampNeg), .int (xs x160.toNatClampNeg), .ref 62]) (cl' := (c0 + 4)) (sl' := (s0 + 24)) C (c_Lw_thin hl n ids h1 h62 (xs x158.toNatClampNeg) (xs x159.toNatClampNeg) (xs x160.toNatClampNeg) σ3) mh_Lw_thin_128 s_Lw_thin ⟨Nat.le_of_ble_eq_true rfl, Nat.le_of_ble_eq_true rfl⟩ (Nat.le_of_ble_eq_true rfl) hB1 ⟨Nat.add_le_add_left (Nat.le_of_ble_eq_true rfl) _, Nat.add_le_add_left (Nat.le_of_ble_eq_true rfl) _⟩ rfl d_Lw_law_868 (fun x161 σ162 => ?_)
        refine kw_istore (L' := [some (.ref 0), some (.ref 1), some (.ref 63), some (.ref 62), some (.int x2), some (.int x161), none]) C d_Lw_law_871 (by decide) rfl ?_
        refine kw_aload_n C d_Lw_law_873 rfl ?_
        refine kw_aload_n C d_Lw_law_874 rfl ?_
        refine kw_iload C d_Lw_law_875 rfl ?_
        refine kw_iconst (v := 1) C d_Lw_law_877 (by decide) ?_
        refine kw_iadd C d_Lw_law_878 ?_
        refine kw_leti (fun x163 => ?_)
        refine kw_sld C hSc hb0 d_Lw_law_879 ?_
        refine kw_aload_n C d_Lw_law_880 rfl ?_
        refine kw_iload C d_Lw_law_881 rfl ?_
        refine kw_iconst (v := 2) C d_Lw_law_883 (by decide) ?_
        refine kw_iadd C d_Lw_law_884 ?_
        refine kw_leti (fun x164 => ?_)
        refine kw_sld C hSc hb0 d_Lw_law_885 ?_
        refine kw_aload_n C d_Lw_law_886 rfl ?_
        refine kw_iload C d_Lw_law_887 rfl ?_
        refine kw_iconst (v := 3) C d_Lw_law_889 (by decide) ?_
        refine kw_iadd C d_Lw_law_890 ?_
        refine kw_leti (fun x165 => ?_)
        refine kw_sld C hSc hb0 d_Lw_law_891 ?_
        refine kw_callV0i (As := [.int (xs x163.toNatClampNeg), .int (xs x164.toNatClampNeg), .int (xs x165.toNatClampNeg)]) C (c_Md_thin hl n ids h63 (xs x163.toNatClampNeg) (xs x164.toNatClampNeg) (xs x165.toNatClampNeg) σ162) mi_Lw_130 v_Md_thin ⟨_, _, rfl⟩ h63 ⟨Nat.le_of_ble_eq_true rfl, Nat.le_of_ble_eq_true rfl⟩ (Nat.le_of_ble_eq_true rfl) ⟨rfl, rfl⟩ hB1 rfl d_Lw_law_892 (fun x167 σ166 => ?_)
        refine kw_istore (L' := [some (.ref 0), some (.ref 1), some (.ref 63), some (.ref 62), some (.int x2), some (.int x161), some (.int x167)]) C d_Lw_law_895 (by decide) rfl ?_
        refine kw_aload_n C d_Lw_law_897 rfl ?_
        refine kw_callV0i (As := []) C (c_Md_thrown hl n ids h63  σ166) mi_Lw_85 v_Md_thrown ⟨_, _, rfl⟩ h63 ⟨Nat.le_of_ble_eq_true rfl, Nat.le_of_ble_eq_true rfl⟩ (Nat.le_of_ble_eq_true rfl) ⟨rfl, rfl⟩ hB1 rfl d_Lw_law_898 (fun x169 σ168 => ?_)
        refine kw_iload C d_Lw_law_901 rfl ?_
        refine kw_icmp_eq (tgt := 908) C d_Lw_law_903 (by decide) ?_ ?_
        · refine kw_iload C d_Lw_law_908 rfl ?_
          refine kw_j (α := Unit) (pcj := 925) (Lj := fun x171 => [some (.ref 0), some (.ref 1), some (.ref 63), some (.ref 62), some (.int x2), none, none]) (stj := fun x171 => []) (fun x171 σ172 => ?_) (fun k170 hk170 => ?_)
          · refine kw_goto (tgt := 1264) C d_Lw_law_925 (by decide) ?_
            exact kw_wk (hk4 () σ172) ⟨Or.inr rfl, Or.inr rfl, Or.inr rfl, Or.inr rfl, Or.inr rfl, Or.inl rfl, Or.inl rfl, trivial⟩
          · refine kw_if_ne (tgt := 925) C d_Lw_law_910 (by decide) ?_ ?_
            · exact kw_wk (hk170 () σ168) ⟨Or.inr rfl, Or.inr rfl, Or.inr rfl, Or.inr rfl, Or.inr rfl, Or.inl rfl, Or.inl rfl, trivial⟩
            · refine kw_aload_n C d_Lw_law_913 rfl ?_
              refine kw_iconst (v := 0) C d_Lw_law_914 (by decide) ?_
              refine kw_lald C h62 d_Lw_law_915 ?_
              refine kw_iload C d_Lw_law_916 rfl ?_
              refine kw_i2l C d_Lw_law_918 ?_
              refine kw_lcmp C d_Lw_law_919 ?_
              refine kw_if_eq (tgt := 925) C d_Lw_law_920 (by decide) ?_ ?_
              · exact kw_wk (hk170 () σ168) ⟨Or.inr rfl, Or.inr rfl, Or.inr rfl, Or.inr rfl, Or.inr rfl, Or.inl rfl, Or.inl rfl, trivial⟩
              · refine kw_iconst (v := 0) C d_Lw_law_923 (by decide) ?_
                exact kw_zret C Ce rfl hE hA hB1.1 hB1.2 rfl d_Lw_law_924
        · refine kw_iconst (v := 0) C d_Lw_law_906 (by decide) ?_
          exact kw_zret C Ce rfl hE hA hB1.1 hB1.2 rfl d_Lw_law_907
      refine kw_sw ?_ (fun hn185 => ?_)
      · refine kw_tsIn (off := 888) (tgt := 928) C d_Lw_law_40 (by decide) (by decide) (by decide) (by decide) ?_
        refine kw_aload_n C d_Lw_law_928 rfl ?_
        refine kw_aload_n C d_Lw_law_929 rfl ?_
        refine kw_iload C d_Lw_law_930 rfl ?_
        refine kw_iconst (v := 1) C d_Lw_law_932 (by decide) ?_
        refine kw_iadd C d_Lw_law_933 ?_
        refine kw_leti (fun x174 => ?_)
        refine kw_sld C hSc hb0 d_Lw_law_934 ?_
        refine kw_aload_n C d_Lw_law_935 rfl ?_
        refine kw_callSh (As := [.ref 1, .int (xs x174.toNatClampNeg), .ref 62]) (cl' := (c0 + 4)) (sl' := (s0 + 24)) C (c_Lw_ofThin hl n ids h1 h62 (xs x174.toNatClampNeg) σ3) mh_Lw_ofThin_131 s_Lw_ofThin ⟨Nat.le_of_ble_eq_true rfl, Nat.le_of_ble_eq_true rfl⟩ (Nat.le_of_ble_eq_true rfl) hB1 ⟨Nat.add_le_add_left (Nat.le_of_ble_eq_true rfl) _, Nat.add_le_add_left (Nat.le_of_ble_eq_true rfl) _⟩ rfl d_Lw_law_936 (fun x175 σ176 => ?_)
        refine kw_istore (L' := [some (.ref 0), some (.ref 1), some (.ref 63), some (.ref 62), some (.int x2), some (.int x175), none]) C d_Lw_law_939 (by decide) rfl ?_
        refine kw_aload_n C d_Lw_law_941 rfl ?_
        refine kw_aload_n C d_Lw_law_942 rfl ?_
        refine kw_iload C d_Lw_law_943 rfl ?_
        refine kw_iconst (v := 1) C d_Lw_law_945 (by decide) ?_
        refine kw_iadd C d_Lw_law_946 ?_
        refine kw_leti (fun x177 => ?_)
        refine kw_sld C hSc hb0 d_Lw_law_947 ?_
        refine kw_callV0i (As := [.int (xs x177.toNatClampNeg)]) C (c_Md_ofThin hl n ids h63 (xs x177.toNatClampNeg) σ176) mi_Lw_133 v_Md_ofThin ⟨_, _, rfl⟩ h63 ⟨Nat.le_of_ble_eq_true rfl, Nat.le_of_ble_eq_true rfl⟩ (Nat.le_of_ble_eq_true rfl) ⟨rfl, rfl⟩ hB1 rfl d_Lw_law_948 (fun x179 σ178 => ?_)
        refine kw_istore (L' := [some (.ref 0), some (.ref 1), some (.ref 63), some (.ref 62), some (.int x2), some (.int x175), some (.int x179)]) C d_Lw_law_951 (by decide) rfl ?_
        refine kw_aload_n C d_Lw_law_953 rfl ?_
        refine kw_callV0i (As := []) C (c_Md_thrown hl n ids h63  σ178) mi_Lw_85 v_Md_thrown ⟨_, _, rfl⟩ h63 ⟨Nat.le_of_ble_eq_true rfl, Nat.le_of_ble_eq_true rfl⟩ (Nat.le_of_ble_eq_true rfl) ⟨rfl, rfl⟩ hB1 rfl d_Lw_law_954 (fun x181 σ180 => ?_)
        refine kw_iload C d_Lw_law_957 rfl ?_
        refine kw_icmp_eq (tgt := 964) C d_Lw_law_959 (by decide) ?_ ?_
        · refine kw_iload C d_Lw_law_964 rfl ?_
          refine kw_j (α := Unit) (pcj := 981) (Lj := fun x183 => [some (.ref 0), some (.ref 1), some (.ref 63), some (.ref 62), some (.int x2), none, none]) (stj := fun x183 => []) (fun x183 σ184 => ?_) (fun k182 hk182 => ?_)
          · refine kw_goto (tgt := 1264) C d_Lw_law_981 (by decide) ?_
            exact kw_wk (hk4 () σ184) ⟨Or.inr rfl, Or.inr rfl, Or.inr rfl, Or.inr rfl, Or.inr rfl, Or.inl rfl, Or.inl rfl, trivial⟩
          · refine kw_if_ne (tgt := 981) C d_Lw_law_966 (by decide) ?_ ?_
            · exact kw_wk (hk182 () σ180) ⟨Or.inr rfl, Or.inr rfl, Or.inr rfl, Or.inr rfl, Or.inr rfl, Or.inl rfl, Or.inl rfl, trivial⟩
            · refine kw_aload_n C d_Lw_law_969 rfl ?_
              refine kw_iconst (v := 0) C d_Lw_law_970 (by decide) ?_
              refine kw_lald C h62 d_Lw_law_971 ?_
              refine kw_iload C d_Lw_law_972 rfl ?_
              refine kw_i2l C d_Lw_law_974 ?_
              refine kw_lcmp C d_Lw_law_975 ?_
              refine kw_if_eq (tgt := 981) C d_Lw_law_976 (by decide) ?_ ?_
              · exact kw_wk (hk182 () σ180) ⟨Or.inr rfl, Or.inr rfl, Or.inr rfl, Or.inr rfl, Or.inr rfl, Or.inl rfl, Or.inl rfl, trivial⟩
              · refine kw_iconst (v := 0) C d_Lw_law_979 (by decide) ?_
                exact kw_zret C Ce rfl hE hA hB1.1 hB1.2 rfl d_Lw_law_980
        · refine kw_iconst (v := 0) C d_Lw_law_962 (by decide) ?_
          exact kw_zret C Ce rfl hE hA hB1.1 hB1.2 rfl d_Lw_law_963
      refine kw_sw ?_ (fun hn197 => ?_)
      · refine kw_tsIn (off := 944) (tgt := 984) C d_Lw_law_40 (by decide) (by decide) (by decide) (by decide) ?_
        refine kw_aload_n C d_Lw_law_984 rfl ?_
        refine kw_aload_n C d_Lw_law_985 rfl ?_
        refine kw_iload C d_Lw_law_986 rfl ?_
        refine kw_iconst (v := 1) C d_Lw_law_988 (by decide) ?_
        refine kw_iadd C d_Lw_law_989 ?_
        refine kw_leti (fun x186 => ?_)
        refine kw_sld C hSc hb0 d_Lw_law_990 ?_
        refine kw_aload_n C d_Lw_law_991 rfl ?_
        refine kw_callSh (As := [.ref 1, .int (xs x186.toNatClampNeg), .ref 62]) (cl' := (c0 + 4)) (sl' := (s0 + 24)) C (c_Lw_filter hl n ids h1 h62 (xs x186.toNatClampNeg) σ3) mh_Lw_filter_134 s_Lw_filter ⟨Nat.le_of_ble_eq_true rfl, Nat.le_of_ble_eq_true rfl⟩ (Nat.le_of_ble_eq_true rfl) hB1 ⟨Nat.add_le_add_left (Nat.le_of_ble_eq_true rfl) _, Nat.add_le_add_left (Nat.le_of_ble_eq_true rfl) _⟩ rfl d_Lw_law_992 (fun x187 σ188 => ?_)
        refine kw_istore (L' := [some (.ref 0), some (.ref 1), some (.ref 63), some (.ref 62), some (.int x2), some (.int x187), none]) C d_Lw_law_995 (by decide) rfl ?_
        refine kw_aload_n C d_Lw_law_997 rfl ?_
        refine kw_aload_n C d_Lw_law_998 rfl ?_
        refine kw_iload C d_Lw_law_999 rfl ?_
        refine kw_iconst (v := 1) C d_Lw_law_1001 (by decide) ?_
        refine kw_iadd C d_Lw_law_1002 ?_
        refine kw_leti (fun x189 => ?_)
        refine kw_sld C hSc hb0 d_Lw_law_1003 ?_
        refine kw_callV0i (As := [.int (xs x189.toNatClampNeg)]) C (c_Md_filter hl n ids h63 (xs x189.toNatClampNeg) σ188) mi_Lw_136 v_Md_filter ⟨_, _, rfl⟩ h63 ⟨Nat.le_of_ble_eq_true rfl, Nat.le_of_ble_eq_true rfl⟩ (Nat.le_of_ble_eq_true rfl) ⟨rfl, rfl⟩ hB1 rfl d_Lw_law_1004 (fun x191 σ190 => ?_)
        refine kw_istore (L' := [some (.ref 0), some (.ref 1), some (.ref 63), some (.ref 62), some (.int x2), some (.int x187), some (.int x191)]) C d_Lw_law_1007 (by decide) rfl ?_
        refine kw_aload_n C d_Lw_law_1009 rfl ?_
        refine kw_callV0i (As := []) C (c_Md_thrown hl n ids h63  σ190) mi_Lw_85 v_Md_thrown ⟨_, _, rfl⟩ h63 ⟨Nat.le_of_ble_eq_true rfl, Nat.le_of_ble_eq_true rfl⟩ (Nat.le_of_ble_eq_true rfl) ⟨rfl, rfl⟩ hB1 rfl d_Lw_law_1010 (fun x193 σ192 => ?_)
        refine kw_iload C d_Lw_law_1013 rfl ?_
        refine kw_icmp_eq (tgt := 1020) C d_Lw_law_1015 (by decide) ?_ ?_
        · refine kw_iload C d_Lw_law_1020 rfl ?_
          refine kw_j (α := Unit) (pcj := 1037) (Lj := fun x195 => [some (.ref 0), some (.ref 1), some (.ref 63), some (.ref 62), some (.int x2), none, none]) (stj := fun x195 => []) (fun x195 σ196 => ?_) (fun k194 hk194 => ?_)
          · refine kw_goto (tgt := 1264) C d_Lw_law_1037 (by decide) ?_
            exact kw_wk (hk4 () σ196) ⟨Or.inr rfl, Or.inr rfl, Or.inr rfl, Or.inr rfl, Or.inr rfl, Or.inl rfl, Or.inl rfl, trivial⟩
          · refine kw_if_ne (tgt := 1037) C d_Lw_law_1022 (by decide) ?_ ?_
            · exact kw_wk (hk194 () σ192) ⟨Or.inr rfl, Or.inr rfl, Or.inr rfl, Or.inr rfl, Or.inr rfl, Or.inl rfl, Or.inl rfl, trivial⟩
            · refine kw_aload_n C d_Lw_law_1025 rfl ?_
              refine kw_iconst (v := 0) C d_Lw_law_1026 (by decide) ?_
              refine kw_lald C h62 d_Lw_law_1027 ?_
              refine kw_iload C d_Lw_law_1028 rfl ?_
              refine kw_i2l C d_Lw_law_1030 ?_
              refine kw_lcmp C d_Lw_law_1031 ?_
              refine kw_if_eq (tgt := 1037) C d_Lw_law_1032 (by decide) ?_ ?_
              · exact kw_wk (hk194 () σ192) ⟨Or.inr rfl, Or.inr rfl, Or.inr rfl, Or.inr rfl, Or.inr rfl, Or.inl rfl, Or.inl rfl, trivial⟩
              · refine kw_iconst (v := 0) C d_Lw_law_1035 (by decide) ?_
                exact kw_zret C Ce rfl hE hA hB1.1 hB1.2 rfl d_Lw_law_1036
        · refine kw_iconst (v := 0) C d_Lw_law_1018 (by decide) ?_
          exact kw_zret C Ce rfl hE hA hB1.1 hB1.2 rfl d_Lw_law_1019
      refine kw_sw ?_ (fun hn215 => ?_)
      · refine kw_tsIn (off := 1000) (tgt := 1040) C d_Lw_law_40 (by decide) (by decide) (by decide) (by decide) ?_
        refine kw_aload_n C d_Lw_law_1040 rfl ?_
        refine kw_aload_n C d_Lw_law_1041 rfl ?_
        refine kw_iload C d_Lw_law_1042 rfl ?_
        refine kw_iconst (v := 1) C d_Lw_law_1044 (by decide) ?_
        refine kw_iadd C d_Lw_law_1045 ?_
        refine kw_leti (fun x198 => ?_)
        refine kw_sld C hSc hb0 d_Lw_law_1046 ?_
        refine kw_j (α := Int32) (pcj := 1055) (Lj := fun x200 => [some (.ref 0), some (.ref 1), some (.ref 63), some (.ref 62), some (.int x2), none, none]) (stj := fun x200 => [.int x200, .ref 1]) (fun x200 σ201 => ?_) (fun k199 hk199 => ?_)
        · refine kw_aload_n C d_Lw_law_1055 rfl ?_
          refine kw_callSh (As := [.ref 1, .int x200, .ref 62]) (cl' := (c0 + 4)) (sl' := (s0 + 24)) C (c_Lw_write hl n ids h1 h62 x200 σ201) mh_Lw_write_137 s_Lw_write ⟨Nat.le_of_ble_eq_true rfl, Nat.le_of_ble_eq_true rfl⟩ (Nat.le_of_ble_eq_true rfl) hB1 ⟨Nat.add_le_add_left (Nat.le_of_ble_eq_true rfl) _, Nat.add_le_add_left (Nat.le_of_ble_eq_true rfl) _⟩ rfl d_Lw_law_1056 (fun x202 σ203 => ?_)
          refine kw_istore (L' := [some (.ref 0), some (.ref 1), some (.ref 63), some (.ref 62), some (.int x2), some (.int x202), none]) C d_Lw_law_1059 (by decide) rfl ?_
          refine kw_aload_n C d_Lw_law_1061 rfl ?_
          refine kw_aload_n C d_Lw_law_1062 rfl ?_
          refine kw_iload C d_Lw_law_1063 rfl ?_
          refine kw_iconst (v := 1) C d_Lw_law_1065 (by decide) ?_
          refine kw_iadd C d_Lw_law_1066 ?_
          refine kw_leti (fun x204 => ?_)
          refine kw_sld C hSc hb0 d_Lw_law_1067 ?_
          refine kw_j (α := Int32) (pcj := 1076) (Lj := fun x206 => [some (.ref 0), some (.ref 1), some (.ref 63), some (.ref 62), some (.int x2), some (.int x202), none]) (stj := fun x206 => [.int x206, .ref 63]) (fun x206 σ207 => ?_) (fun k205 hk205 => ?_)
          · refine kw_callV0i (As := [.int x206]) C (c_Md_write hl n ids h63 x206 σ207) mi_Lw_140 v_Md_write ⟨_, _, rfl⟩ h63 ⟨Nat.le_of_ble_eq_true rfl, Nat.le_of_ble_eq_true rfl⟩ (Nat.le_of_ble_eq_true rfl) ⟨rfl, rfl⟩ hB1 rfl d_Lw_law_1076 (fun x209 σ208 => ?_)
            refine kw_istore (L' := [some (.ref 0), some (.ref 1), some (.ref 63), some (.ref 62), some (.int x2), some (.int x202), some (.int x209)]) C d_Lw_law_1079 (by decide) rfl ?_
            refine kw_aload_n C d_Lw_law_1081 rfl ?_
            refine kw_callV0i (As := []) C (c_Md_thrown hl n ids h63  σ208) mi_Lw_85 v_Md_thrown ⟨_, _, rfl⟩ h63 ⟨Nat.le_of_ble_eq_true rfl, Nat.le_of_ble_eq_true rfl⟩ (Nat.le_of_ble_eq_true rfl) ⟨rfl, rfl⟩ hB1 rfl d_Lw_law_1082 (fun x211 σ210 => ?_)
            refine kw_iload C d_Lw_law_1085 rfl ?_
            refine kw_icmp_eq (tgt := 1092) C d_Lw_law_1087 (by decide) ?_ ?_
            · refine kw_iload C d_Lw_law_1092 rfl ?_
              refine kw_j (α := Unit) (pcj := 1109) (Lj := fun x213 => [some (.ref 0), some (.ref 1), some (.ref 63), some (.ref 62), some (.int x2), none, none]) (stj := fun x213 => []) (fun x213 σ214 => ?_) (fun k212 hk212 => ?_)
              · refine kw_goto (tgt := 1264) C d_Lw_law_1109 (by decide) ?_
                exact kw_wk (hk4 () σ214) ⟨Or.inr rfl, Or.inr rfl, Or.inr rfl, Or.inr rfl, Or.inr rfl, Or.inl rfl, Or.inl rfl, trivial⟩
              · refine kw_if_ne (tgt := 1109) C d_Lw_law_1094 (by decide) ?_ ?_
                · exact kw_wk (hk212 () σ210) ⟨Or.inr rfl, Or.inr rfl, Or.inr rfl, Or.inr rfl, Or.inr rfl, Or.inl rfl, Or.inl rfl, trivial⟩
                · refine kw_aload_n C d_Lw_law_1097 rfl ?_
                  refine kw_iconst (v := 0) C d_Lw_law_1098 (by decide) ?_
                  refine kw_lald C h62 d_Lw_law_1099 ?_
                  refine kw_iload C d_Lw_law_1100 rfl ?_
                  refine kw_i2l C d_Lw_law_1102 ?_
                  refine kw_lcmp C d_Lw_law_1103 ?_
                  refine kw_if_eq (tgt := 1109) C d_Lw_law_1104 (by decide) ?_ ?_
                  · exact kw_wk (hk212 () σ210) ⟨Or.inr rfl, Or.inr rfl, Or.inr rfl, Or.inr rfl, Or.inr rfl, Or.inl rfl, Or.inl rfl, trivial⟩
                  · refine kw_iconst (v := 0) C d_Lw_law_1107 (by decide) ?_
                    exact kw_zret C Ce rfl hE hA hB1.1 hB1.2 rfl d_Lw_law_1108
            · refine kw_iconst (v := 0) C d_Lw_law_1090 (by decide) ?_
              exact kw_zret C Ce rfl hE hA hB1.1 hB1.2 rfl d_Lw_law_1091
          · refine kw_if_eq (tgt := 1075) C d_Lw_law_1068 (by decide) ?_ ?_
            · refine kw_iconst (v := 0) C d_Lw_law_1075 (by decide) ?_
              exact kw_wk (hk205 0 σ203) ⟨Or.inr rfl, Or.inr rfl, Or.inr rfl, Or.inr rfl, Or.inr rfl, Or.inr rfl, Or.inl rfl, trivial⟩
            · refine kw_iconst (v := 1) C d_Lw_law_1071 (by decide) ?_
              refine kw_goto (tgt := 1076) C d_Lw_law_1072 (by decide) ?_
              exact kw_wk (hk205 1 σ203) ⟨Or.inr rfl, Or.inr rfl, Or.inr rfl, Or.inr rfl, Or.inr rfl, Or.inr rfl, Or.inl rfl, trivial⟩
        · refine kw_if_eq (tgt := 1054) C d_Lw_law_1047 (by decide) ?_ ?_
          · refine kw_iconst (v := 0) C d_Lw_law_1054 (by decide) ?_
            exact kw_wk (hk199 0 σ3) ⟨Or.inr rfl, Or.inr rfl, Or.inr rfl, Or.inr rfl, Or.inr rfl, Or.inl rfl, Or.inl rfl, trivial⟩
          · refine kw_iconst (v := 1) C d_Lw_law_1050 (by decide) ?_
            refine kw_goto (tgt := 1055) C d_Lw_law_1051 (by decide) ?_
            exact kw_wk (hk199 1 σ3) ⟨Or.inr rfl, Or.inr rfl, Or.inr rfl, Or.inr rfl, Or.inr rfl, Or.inl rfl, Or.inl rfl, trivial⟩
      refine kw_sw ?_ (fun hn227 => ?_)
      · refine kw_tsIn (off := 1072) (tgt := 1112) C d_Lw_law_40 (by decide) (by decide) (by decide) (by decide) ?_
        refine kw_aload_n C d_Lw_law_1112 rfl ?_
        refine kw_aload_n C d_Lw_law_1113 rfl ?_
        refine kw_iload C d_Lw_law_1114 rfl ?_
        refine kw_iconst (v := 1) C d_Lw_law_1116 (by decide) ?_
        refine kw_iadd C d_Lw_law_1117 ?_
        refine kw_leti (fun x216 => ?_)
        refine kw_sld C hSc hb0 d_Lw_law_1118 ?_
        refine kw_aload_n C d_Lw_law_1119 rfl ?_
        refine kw_callSh (As := [.ref 1, .int (xs x216.toNatClampNeg), .ref 62]) (cl' := (c0 + 4)) (sl' := (s0 + 24)) C (c_Lw_byteAt hl n ids h1 h62 (xs x216.toNatClampNeg) σ3) mh_Lw_byteAt_141 s_Lw_byteAt ⟨Nat.le_of_ble_eq_true rfl, Nat.le_of_ble_eq_true rfl⟩ (Nat.le_of_ble_eq_true rfl) hB1 ⟨Nat.add_le_add_left (Nat.le_of_ble_eq_true rfl) _, Nat.add_le_add_left (Nat.le_of_ble_eq_true rfl) _⟩ rfl d_Lw_law_1120 (fun x217 σ218 => ?_)
        refine kw_istore (L' := [some (.ref 0), some (.ref 1), some (.ref 63), some (.ref 62), some (.int x2), some (.int x217), none]) C d_Lw_law_1123 (by decide) rfl ?_
        refine kw_aload_n C d_Lw_law_1125 rfl ?_
        refine kw_aload_n C d_Lw_law_1126 rfl ?_
        refine kw_iload C d_Lw_law_1127 rfl ?_
        refine kw_iconst (v := 1) C d_Lw_law_1129 (by decide) ?_
        refine kw_iadd C d_Lw_law_1130 ?_
        refine kw_leti (fun x219 => ?_)
        refine kw_sld C hSc hb0 d_Lw_law_1131 ?_
        refine kw_callV0i (As := [.int (xs x219.toNatClampNeg)]) C (c_Md_byteAt hl n ids h63 (xs x219.toNatClampNeg) σ218) mi_Lw_143 v_Md_byteAt ⟨_, _, rfl⟩ h63 ⟨Nat.le_of_ble_eq_true rfl, Nat.le_of_ble_eq_true rfl⟩ (Nat.le_of_ble_eq_true rfl) ⟨rfl, rfl⟩ hB1 rfl d_Lw_law_1132 (fun x221 σ220 => ?_)
        refine kw_istore (L' := [some (.ref 0), some (.ref 1), some (.ref 63), some (.ref 62), some (.int x2), some (.int x217), some (.int x221)]) C d_Lw_law_1135 (by decide) rfl ?_
        refine kw_aload_n C d_Lw_law_1137 rfl ?_
        refine kw_callV0i (As := []) C (c_Md_thrown hl n ids h63  σ220) mi_Lw_85 v_Md_thrown ⟨_, _, rfl⟩ h63 ⟨Nat.le_of_ble_eq_true rfl, Nat.le_of_ble_eq_true rfl⟩ (Nat.le_of_ble_eq_true rfl) ⟨rfl, rfl⟩ hB1 rfl d_Lw_law_1138 (fun x223 σ222 => ?_)
        refine kw_iload C d_Lw_law_1141 rfl ?_
        refine kw_icmp_eq (tgt := 1148) C d_Lw_law_1143 (by decide) ?_ ?_
        · refine kw_iload C d_Lw_law_1148 rfl ?_
          refine kw_j (α := Unit) (pcj := 1165) (Lj := fun x225 => [some (.ref 0), some (.ref 1), some (.ref 63), some (.ref 62), some (.int x2), none, none]) (stj := fun x225 => []) (fun x225 σ226 => ?_) (fun k224 hk224 => ?_)
          · refine kw_goto (tgt := 1264) C d_Lw_law_1165 (by decide) ?_
            exact kw_wk (hk4 () σ226) ⟨Or.inr rfl, Or.inr rfl, Or.inr rfl, Or.inr rfl, Or.inr rfl, Or.inl rfl, Or.inl rfl, trivial⟩
          · refine kw_if_ne (tgt := 1165) C d_Lw_law_1150 (by decide) ?_ ?_
            · exact kw_wk (hk224 () σ222) ⟨Or.inr rfl, Or.inr rfl, Or.inr rfl, Or.inr rfl, Or.inr rfl, Or.inl rfl, Or.inl rfl, trivial⟩
            · refine kw_aload_n C d_Lw_law_1153 rfl ?_
              refine kw_iconst (v := 0) C d_Lw_law_1154 (by decide) ?_
              refine kw_lald C h62 d_Lw_law_1155 ?_
              refine kw_iload C d_Lw_law_1156 rfl ?_
              refine kw_i2l C d_Lw_law_1158 ?_
              refine kw_lcmp C d_Lw_law_1159 ?_
              refine kw_if_eq (tgt := 1165) C d_Lw_law_1160 (by decide) ?_ ?_
              · exact kw_wk (hk224 () σ222) ⟨Or.inr rfl, Or.inr rfl, Or.inr rfl, Or.inr rfl, Or.inr rfl, Or.inl rfl, Or.inl rfl, trivial⟩
              · refine kw_iconst (v := 0) C d_Lw_law_1163 (by decide) ?_
                exact kw_zret C Ce rfl hE hA hB1.1 hB1.2 rfl d_Lw_law_1164
        · refine kw_iconst (v := 0) C d_Lw_law_1146 (by decide) ?_
          exact kw_zret C Ce rfl hE hA hB1.1 hB1.2 rfl d_Lw_law_1147
      refine kw_sw ?_ (fun hn237 => ?_)
      · refine kw_tsIn (off := 1128) (tgt := 1168) C d_Lw_law_40 (by decide) (by decide) (by decide) (by decide) ?_
        refine kw_aload_n C d_Lw_law_1168 rfl ?_
        refine kw_aload_n C d_Lw_law_1169 rfl ?_
        refine kw_iload C d_Lw_law_1170 rfl ?_
        refine kw_iconst (v := 1) C d_Lw_law_1172 (by decide) ?_
        refine kw_iadd C d_Lw_law_1173 ?_
        refine kw_leti (fun x228 => ?_)
        refine kw_sld C hSc hb0 d_Lw_law_1174 ?_
        refine kw_aload_n C d_Lw_law_1175 rfl ?_
        refine kw_iload C d_Lw_law_1176 rfl ?_
        refine kw_iconst (v := 2) C d_Lw_law_1178 (by decide) ?_
        refine kw_iadd C d_Lw_law_1179 ?_
        refine kw_leti (fun x229 => ?_)
        refine kw_sld C hSc hb0 d_Lw_law_1180 ?_
        refine kw_callSh (As := [.ref 1, .int (xs x228.toNatClampNeg), .int (xs x229.toNatClampNeg)]) (cl' := (c0 + 4)) (sl' := (s0 + 24)) C (c_Lw_spoil hl n ids h1 (xs x228.toNatClampNeg) (xs x229.toNatClampNeg) σ3) mh_Lw_spoil_144 s_Lw_spoil ⟨Nat.le_of_ble_eq_true rfl, Nat.le_of_ble_eq_true rfl⟩ (Nat.le_of_ble_eq_true rfl) hB1 ⟨Nat.add_le_add_left (Nat.le_of_ble_eq_true rfl) _, Nat.add_le_add_left (Nat.le_of_ble_eq_true rfl) _⟩ rfl d_Lw_law_1181 (fun x230 σ231 => ?_)
        refine kw_istore (L' := [some (.ref 0), some (.ref 1), some (.ref 63), some (.ref 62), some (.int x2), some (.int x230), none]) C d_Lw_law_1184 (by decide) rfl ?_
        refine kw_aload_n C d_Lw_law_1186 rfl ?_
        refine kw_aload_n C d_Lw_law_1187 rfl ?_
        refine kw_iload C d_Lw_law_1188 rfl ?_
        refine kw_iconst (v := 1) C d_Lw_law_1190 (by decide) ?_
        refine kw_iadd C d_Lw_law_1191 ?_
        refine kw_leti (fun x232 => ?_)
        refine kw_sld C hSc hb0 d_Lw_law_1192 ?_
        refine kw_aload_n C d_Lw_law_1193 rfl ?_
        refine kw_iload C d_Lw_law_1194 rfl ?_
        refine kw_iconst (v := 2) C d_Lw_law_1196 (by decide) ?_
        refine kw_iadd C d_Lw_law_1197 ?_
        refine kw_leti (fun x233 => ?_)
        refine kw_sld C hSc hb0 d_Lw_law_1198 ?_
        refine kw_callV0v (As := [.int (xs x232.toNatClampNeg), .int (xs x233.toNatClampNeg)]) C (c_Md_spoil hl n ids h63 (xs x232.toNatClampNeg) (xs x233.toNatClampNeg) σ231) mi_Lw_147 v_Md_spoil ⟨_, _, rfl⟩ h63 ⟨Nat.le_of_ble_eq_true rfl, Nat.le_of_ble_eq_true rfl⟩ (Nat.le_of_ble_eq_true rfl) ⟨rfl, rfl⟩ hB1 rfl d_Lw_law_1199 (fun σ234 => ?_)
        refine kw_aload_n C d_Lw_law_1202 rfl ?_
        refine kw_callV0i (As := []) C (c_Md_thrown hl n ids h63  σ234) mi_Lw_85 v_Md_thrown ⟨_, _, rfl⟩ h63 ⟨Nat.le_of_ble_eq_true rfl, Nat.le_of_ble_eq_true rfl⟩ (Nat.le_of_ble_eq_true rfl) ⟨rfl, rfl⟩ hB1 rfl d_Lw_law_1203 (fun x236 σ235 => ?_)
        refine kw_iload C d_Lw_law_1206 rfl ?_
        refine kw_icmp_eq (tgt := 1213) C d_Lw_law_1208 (by decide) ?_ ?_
        · refine kw_goto (tgt := 1264) C d_Lw_law_1213 (by decide) ?_
          exact kw_wk (hk4 () σ235) ⟨Or.inr rfl, Or.inr rfl, Or.inr rfl, Or.inr rfl, Or.inr rfl, Or.inl rfl, Or.inl rfl, trivial⟩
        · refine kw_iconst (v := 0) C d_Lw_law_1211 (by decide) ?_
          exact kw_zret C Ce rfl hE hA hB1.1 hB1.2 rfl d_Lw_law_1212
      refine kw_sw ?_ (fun hn247 => ?_)
      · refine kw_tsIn (off := 1176) (tgt := 1216) C d_Lw_law_40 (by decide) (by decide) (by decide) (by decide) ?_
        refine kw_aload_n C d_Lw_law_1216 rfl ?_
        refine kw_aload_n C d_Lw_law_1217 rfl ?_
        refine kw_iload C d_Lw_law_1218 rfl ?_
        refine kw_iconst (v := 1) C d_Lw_law_1220 (by decide) ?_
        refine kw_iadd C d_Lw_law_1221 ?_
        refine kw_leti (fun x238 => ?_)
        refine kw_sld C hSc hb0 d_Lw_law_1222 ?_
        refine kw_aload_n C d_Lw_law_1223 rfl ?_
        refine kw_iload C d_Lw_law_1224 rfl ?_
        refine kw_iconst (v := 2) C d_Lw_law_1226 (by decide) ?_
        refine kw_iadd C d_Lw_law_1227 ?_
        refine kw_leti (fun x239 => ?_)
        refine kw_sld C hSc hb0 d_Lw_law_1228 ?_
        refine kw_callSh (As := [.ref 1, .int (xs x238.toNatClampNeg), .int (xs x239.toNatClampNeg)]) (cl' := (c0 + 4)) (sl' := (s0 + 24)) C (c_Lw_mend hl n ids h1 (xs x238.toNatClampNeg) (xs x239.toNatClampNeg) σ3) mh_Lw_mend_148 s_Lw_mend ⟨Nat.le_of_ble_eq_true rfl, Nat.le_of_ble_eq_true rfl⟩ (Nat.le_of_ble_eq_true rfl) hB1 ⟨Nat.add_le_add_left (Nat.le_of_ble_eq_true rfl) _, Nat.add_le_add_left (Nat.le_of_ble_eq_true rfl) _⟩ rfl d_Lw_law_1229 (fun x240 σ241 => ?_)
        refine kw_istore (L' := [some (.ref 0), some (.ref 1), some (.ref 63), some (.ref 62), some (.int x2), some (.int x240), none]) C d_Lw_law_1232 (by decide) rfl ?_
        refine kw_aload_n C d_Lw_law_1234 rfl ?_
        refine kw_aload_n C d_Lw_law_1235 rfl ?_
        refine kw_iload C d_Lw_law_1236 rfl ?_
        refine kw_iconst (v := 1) C d_Lw_law_1238 (by decide) ?_
        refine kw_iadd C d_Lw_law_1239 ?_
        refine kw_leti (fun x242 => ?_)
        refine kw_sld C hSc hb0 d_Lw_law_1240 ?_
        refine kw_aload_n C d_Lw_law_1241 rfl ?_
        refine kw_iload C d_Lw_law_1242 rfl ?_
        refine kw_iconst (v := 2) C d_Lw_law_1244 (by decide) ?_
        refine kw_iadd C d_Lw_law_1245 ?_
        refine kw_leti (fun x243 => ?_)
        refine kw_sld C hSc hb0 d_Lw_law_1246 ?_
        refine kw_callV0v (As := [.int (xs x242.toNatClampNeg), .int (xs x243.toNatClampNeg)]) C (c_Md_mend hl n ids h63 (xs x242.toNatClampNeg) (xs x243.toNatClampNeg) σ241) mi_Lw_150 v_Md_mend ⟨_, _, rfl⟩ h63 ⟨Nat.le_of_ble_eq_true rfl, Nat.le_of_ble_eq_true rfl⟩ (Nat.le_of_ble_eq_true rfl) ⟨rfl, rfl⟩ hB1 rfl d_Lw_law_1247 (fun σ244 => ?_)
        refine kw_aload_n C d_Lw_law_1250 rfl ?_
        refine kw_callV0i (As := []) C (c_Md_thrown hl n ids h63  σ244) mi_Lw_85 v_Md_thrown ⟨_, _, rfl⟩ h63 ⟨Nat.le_of_ble_eq_true rfl, Nat.le_of_ble_eq_true rfl⟩ (Nat.le_of_ble_eq_true rfl) ⟨rfl, rfl⟩ hB1 rfl d_Lw_law_1251 (fun x246 σ245 => ?_)
        refine kw_iload C d_Lw_law_1254 rfl ?_
        refine kw_icmp_eq (tgt := 1261) C d_Lw_law_1256 (by decide) ?_ ?_
        · refine kw_goto (tgt := 1264) C d_Lw_law_1261 (by decide) ?_
          exact kw_wk (hk4 () σ245) ⟨Or.inr rfl, Or.inr rfl, Or.inr rfl, Or.inr rfl, Or.inr rfl, Or.inl rfl, Or.inl rfl, trivial⟩
        · refine kw_iconst (v := 0) C d_Lw_law_1259 (by decide) ?_
          exact kw_zret C Ce rfl hE hA hB1.1 hB1.2 rfl d_Lw_law_1260
      · refine kw_tsOut (tgt := 1264) C d_Lw_law_40 (kw_tso (lo := 0) (hi := 17) ((xs x2.toNatClampNeg) &&& 31) (fun k h1 h2 => by rcases (show k = 0 ∨ k = 1 ∨ k = 2 ∨ k = 3 ∨ k = 4 ∨ k = 5 ∨ k = 6 ∨ k = 7 ∨ k = 8 ∨ k = 9 ∨ k = 10 ∨ k = 11 ∨ k = 12 ∨ k = 13 ∨ k = 14 ∨ k = 15 ∨ k = 16 ∨ k = 17 by omega) with rfl | rfl | rfl | rfl | rfl | rfl | rfl | rfl | rfl | rfl | rfl | rfl | rfl | rfl | rfl | rfl | rfl | rfl; exact kw_ni hn27 (by decide); exact kw_ni hn35 (by decide); exact kw_ni hn40 (by decide); exact kw_ni hn45 (by decide); exact kw_ni hn67 (by decide); exact kw_ni hn79 (by decide); exact kw_ni hn95 (by decide); exact kw_ni hn109 (by decide); exact kw_ni hn127 (by decide); exact kw_ni hn143 (by decide); exact kw_ni hn157 (by decide); exact kw_ni hn173 (by decide); exact kw_ni hn185 (by decide); exact kw_ni hn197 (by decide); exact kw_ni hn215 (by decide); exact kw_ni hn227 (by decide); exact kw_ni hn237 (by decide); exact kw_ni hn247 (by decide))) (by decide) ?_
        refine kw_wide (cl' := (c0 + 4)) (sl' := (s0 + 24)) (Nat.le_add_right _ _) (Nat.le_add_right _ _) ?_
        exact kw_wk (hk4 () σ3) ⟨Or.inr rfl, Or.inr rfl, Or.inr rfl, Or.inr rfl, Or.inr rfl, Or.inl rfl, Or.inl rfl, trivial⟩
def law_nw : List Nat := [1, 2, 3, 4, 5, 6, 7, 8, 9, 10, 11, 12, 13, 14, 15, 16, 17, 18, 19, 20, 21, 22, 23, 24, 25, 26, 27, 28, 29, 30, 31, 32, 33, 34, 35, 36, 37, 38, 39, 40, 41, 42, 43, 44, 45, 46, 47, 48, 49, 50, 51, 52, 53, 54, 55, 56, 57, 58, 59, 60, 61, 63, 64, 65, 66, 67, 68, 69, 70, 71, 72, 73, 74, 75, 76, 77, 78, 79, 80, 81, 62]
def F_law (n f N : Nat) (xs : Nat → Int32) (σ : Mm) : Option (Int32 × Mm) :=
kf_let (mm_nw σ 1) fun σ1 =>
Option.bind (F_PF_init_1 n  σ1) fun σ3 =>
kf_let (mm_nw σ3 63) fun σ5 =>
Option.bind (F_Md_init_63 n  σ5) fun σ7 =>
kf_let (mm_nw σ7 62) fun σ9 =>
F_law_loop n N xs f 0 σ9
set_option maxRecDepth 100000 in
set_option maxHeartbeats 4000000 in
theorem law_start {l0 : Launch} (hl : l0.stackTraces = false) (n f : Nat) (hf : f ≤ 600) {Γ : kw_G} {ad : Nat → Nat} {b N : Nat} {xs : Nat → Int32} (C : kw_Cx Γ l0 "PictureFileLaw" code (some .boolean) "law" [] 7 room_1) (Ce : kw_Ce Γ room_1 [] law_nw ad) (hSc : kw_Sc Γ b N xs) (hb0 : ad 0 = b) (σ : Mm) : KW Γ kw_oi [] ad 0 0 (F_law n f N xs σ) 0 [some (.ref 0), none, none, none, none, none, none] [] σ := by
  unfold F_law
  have hn : ∀ q ∈ law_nw, q ∉ ([] : List Nat) := fun _ _ h => nomatch h
  have hA : ∀ q, q ∉ ([] : List Nat) → ad q = ad q := fun _ _ => rfl
  refine kw_new (o := 1) (cl' := 1) (sl' := 9) C nj_Lw_8 (hn 1 (by decide)) rfl rfl (kw_lr (by decide : 0 ∉ ([1] : List Nat)) (kw_ln (kw_ln (kw_ln (kw_ln (kw_ln (kw_ln kw_lz))))))) kw_sz ⟨rfl, rfl⟩ ⟨Nat.le_of_ble_eq_true rfl, Nat.le_of_ble_eq_true rfl⟩ d_Lw_law_0 (fun ad2 σ1 had2 => ?_)
  have hA := kw_ch hA had2
  have h1 : mm_ok (([] : List Nat) ++ [1]) 1 1 0 := ⟨List.mem_append_right _ (List.mem_singleton_self _), rfl, rfl⟩
  refine kw_dup C d_Lw_law_3 rfl ?_
  refine kw_callI (As := []) (cl' := 61) (sl' := 272629) C (c_PF_init_1 hl n (([] : List Nat) ++ [1]) (fun q9 h9 => kw_fresh (hn q9 ((by decide : ∀ q ∈ ([2, 3, 4, 5, 6, 7, 8, 9, 10, 11, 12, 13, 14, 15, 16, 17, 18, 19, 20, 21, 22, 23, 24, 25, 26, 27, 28, 29, 30, 31, 32, 33, 34, 35, 36, 37, 38, 39, 40, 41, 42, 43, 44, 45, 46, 47, 48, 49, 50, 51, 52, 53, 54, 55, 56, 57, 58, 59, 60, 61] : List Nat), q ∈ law_nw) q9 h9)) ((by decide : ∀ q ∈ ([2, 3, 4, 5, 6, 7, 8, 9, 10, 11, 12, 13, 14, 15, 16, 17, 18, 19, 20, 21, 22, 23, 24, 25, 26, 27, 28, 29, 30, 31, 32, 33, 34, 35, 36, 37, 38, 39, 40, 41, 42, 43, 44, 45, 46, 47, 48, 49, 50, 51, 52, 53, 54, 55, 56, 57, 58, 59, 60, 61] : List Nat), q ∉ ([1] : List Nat)) q9 h9)) h1 σ1) li_Lw_75 w_PF_init in_PF iv_PF_init rfl m4_PF_init ⟨Nat.le_of_ble_eq_true rfl, Nat.le_of_ble_eq_true rfl⟩ (Nat.le_of_ble_eq_true rfl) ⟨Nat.le_of_ble_eq_true rfl, Nat.le_of_ble_eq_true rfl⟩ ⟨rfl, rfl⟩ rfl (kw_lr (by decide : 0 ∉ ([2, 3, 4, 5, 6, 7, 8, 9, 10, 11, 12, 13, 14, 15, 16, 17, 18, 19, 20, 21, 22, 23, 24, 25, 26, 27, 28, 29, 30, 31, 32, 33, 34, 35, 36, 37, 38, 39, 40, 41, 42, 43, 44, 45, 46, 47, 48, 49, 50, 51, 52, 53, 54, 55, 56, 57, 58, 59, 60, 61] : List Nat)) (kw_ln (kw_ln (kw_ln (kw_ln (kw_ln (kw_ln kw_lz))))))) (kw_sr9 (by decide : 1 ∉ ([2, 3, 4, 5, 6, 7, 8, 9, 10, 11, 12, 13, 14, 15, 16, 17, 18, 19, 20, 21, 22, 23, 24, 25, 26, 27, 28, 29, 30, 31, 32, 33, 34, 35, 36, 37, 38, 39, 40, 41, 42, 43, 44, 45, 46, 47, 48, 49, 50, 51, 52, 53, 54, 55, 56, 57, 58, 59, 60, 61] : List Nat)) kw_sz) d_Lw_law_4 (fun ad4 σ3 had4 => ?_)
  have h1 := h1.more [2, 3, 4, 5, 6, 7, 8, 9, 10, 11, 12, 13, 14, 15, 16, 17, 18, 19, 20, 21, 22, 23, 24, 25, 26, 27, 28, 29, 30, 31, 32, 33, 34, 35, 36, 37, 38, 39, 40, 41, 42, 43, 44, 45, 46, 47, 48, 49, 50, 51, 52, 53, 54, 55, 56, 57, 58, 59, 60, 61]
  have hA := kw_ch hA had4
  refine kw_astore_n (L' := [some (.ref 0), some (.ref 1), none, none, none, none, none]) C d_Lw_law_7 (by decide) rfl ?_
  refine kw_new (o := 63) (cl' := 62) (sl' := 272686) C nj_Lw_76 (kw_fresh (kw_fresh (hn 63 (by decide)) (by decide : 63 ∉ [1])) (by decide : 63 ∉ [2, 3, 4, 5, 6, 7, 8, 9, 10, 11, 12, 13, 14, 15, 16, 17, 18, 19, 20, 21, 22, 23, 24, 25, 26, 27, 28, 29, 30, 31, 32, 33, 34, 35, 36, 37, 38, 39, 40, 41, 42, 43, 44, 45, 46, 47, 48, 49, 50, 51, 52, 53, 54, 55, 56, 57, 58, 59, 60, 61])) rfl rfl (kw_lr (by decide : 0 ∉ ([63] : List Nat)) (kw_lr (by decide : 1 ∉ ([63] : List Nat)) (kw_ln (kw_ln (kw_ln (kw_ln (kw_ln kw_lz))))))) kw_sz ⟨rfl, rfl⟩ ⟨Nat.le_of_ble_eq_true rfl, Nat.le_of_ble_eq_true rfl⟩ d_Lw_law_8 (fun ad6 σ5 had6 => ?_)
  have h1 := h1.more [63]
  have hA := kw_ch hA had6
  have h63 : mm_ok (([] : List Nat) ++ [1] ++ [2, 3, 4, 5, 6, 7, 8, 9, 10, 11, 12, 13, 14, 15, 16, 17, 18, 19, 20, 21, 22, 23, 24, 25, 26, 27, 28, 29, 30, 31, 32, 33, 34, 35, 36, 37, 38, 39, 40, 41, 42, 43, 44, 45, 46, 47, 48, 49, 50, 51, 52, 53, 54, 55, 56, 57, 58, 59, 60, 61] ++ [63]) 63 1 12 := ⟨List.mem_append_right _ (List.mem_singleton_self _), rfl, rfl⟩
  refine kw_dup C d_Lw_law_11 rfl ?_
  refine kw_callI (As := []) (cl' := 80) (sl' := 546046) C (c_Md_init_63 hl n (([] : List Nat) ++ [1] ++ [2, 3, 4, 5, 6, 7, 8, 9, 10, 11, 12, 13, 14, 15, 16, 17, 18, 19, 20, 21, 22, 23, 24, 25, 26, 27, 28, 29, 30, 31, 32, 33, 34, 35, 36, 37, 38, 39, 40, 41, 42, 43, 44, 45, 46, 47, 48, 49, 50, 51, 52, 53, 54, 55, 56, 57, 58, 59, 60, 61] ++ [63]) (fun q9 h9 => kw_fresh (kw_fresh (kw_fresh (hn q9 ((by decide : ∀ q ∈ ([64, 65, 66, 67, 68, 69, 70, 71, 72, 73, 74, 75, 76, 77, 78, 79, 80, 81] : List Nat), q ∈ law_nw) q9 h9)) ((by decide : ∀ q ∈ ([64, 65, 66, 67, 68, 69, 70, 71, 72, 73, 74, 75, 76, 77, 78, 79, 80, 81] : List Nat), q ∉ ([1] : List Nat)) q9 h9)) ((by decide : ∀ q ∈ ([64, 65, 66, 67, 68, 69, 70, 71, 72, 73, 74, 75, 76, 77, 78, 79, 80, 81] : List Nat), q ∉ ([2, 3, 4, 5, 6, 7, 8, 9, 10, 11, 12, 13, 14, 15, 16, 17, 18, 19, 20, 21, 22, 23, 24, 25, 26, 27, 28, 29, 30, 31, 32, 33, 34, 35, 36, 37, 38, 39, 40, 41, 42, 43, 44, 45, 46, 47, 48, 49, 50, 51, 52, 53, 54, 55, 56, 57, 58, 59, 60, 61] : List Nat)) q9 h9)) ((by decide : ∀ q ∈ ([64, 65, 66, 67, 68, 69, 70, 71, 72, 73, 74, 75, 76, 77, 78, 79, 80, 81] : List Nat), q ∉ ([63] : List Nat)) q9 h9)) h63 σ5) li_Lw_78 w_Md_init in_Md iv_Md_init rfl m4_Md_init ⟨Nat.le_of_ble_eq_true rfl, Nat.le_of_ble_eq_true rfl⟩ (Nat.le_of_ble_eq_true rfl) ⟨Nat.le_of_ble_eq_true rfl, Nat.le_of_ble_eq_true rfl⟩ ⟨rfl, rfl⟩ rfl (kw_lr (by decide : 0 ∉ ([64, 65, 66, 67, 68, 69, 70, 71, 72, 73, 74, 75, 76, 77, 78, 79, 80, 81] : List Nat)) (kw_lr (by decide : 1 ∉ ([64, 65, 66, 67, 68, 69, 70, 71, 72, 73, 74, 75, 76, 77, 78, 79, 80, 81] : List Nat)) (kw_ln (kw_ln (kw_ln (kw_ln (kw_ln kw_lz))))))) (kw_sr9 (by decide : 63 ∉ ([64, 65, 66, 67, 68, 69, 70, 71, 72, 73, 74, 75, 76, 77, 78, 79, 80, 81] : List Nat)) kw_sz) d_Lw_law_12 (fun ad8 σ7 had8 => ?_)
  have h1 := h1.more [64, 65, 66, 67, 68, 69, 70, 71, 72, 73, 74, 75, 76, 77, 78, 79, 80, 81]
  have h63 := h63.more [64, 65, 66, 67, 68, 69, 70, 71, 72, 73, 74, 75, 76, 77, 78, 79, 80, 81]
  have hA := kw_ch hA had8
  refine kw_astore_n (L' := [some (.ref 0), some (.ref 1), some (.ref 63), none, none, none, none]) C d_Lw_law_15 (by decide) rfl ?_
  refine kw_iconst (v := 1) C d_Lw_law_16 (by decide) ?_
  refine kw_newJ (o := 62) (cl' := 81) (sl' := 546047) C ac_long (kw_fresh (kw_fresh (kw_fresh (kw_fresh (hn 62 (by decide)) (by decide : 62 ∉ [1])) (by decide : 62 ∉ [2, 3, 4, 5, 6, 7, 8, 9, 10, 11, 12, 13, 14, 15, 16, 17, 18, 19, 20, 21, 22, 23, 24, 25, 26, 27, 28, 29, 30, 31, 32, 33, 34, 35, 36, 37, 38, 39, 40, 41, 42, 43, 44, 45, 46, 47, 48, 49, 50, 51, 52, 53, 54, 55, 56, 57, 58, 59, 60, 61])) (by decide : 62 ∉ [63])) (by decide : 62 ∉ [64, 65, 66, 67, 68, 69, 70, 71, 72, 73, 74, 75, 76, 77, 78, 79, 80, 81])) rfl rfl (by decide) (by decide) (by decide) (kw_lr (by decide : 0 ∉ ([62] : List Nat)) (kw_lr (by decide : 1 ∉ ([62] : List Nat)) (kw_lr (by decide : 63 ∉ ([62] : List Nat)) (kw_ln (kw_ln (kw_ln (kw_ln kw_lz))))))) kw_sz ⟨rfl, rfl⟩ ⟨Nat.le_of_ble_eq_true rfl, Nat.le_of_ble_eq_true rfl⟩ d_Lw_law_17 (fun ad10 σ9 had10 => ?_)
  have h1 := h1.more [62]
  have h63 := h63.more [62]
  have hA := kw_ch hA had10
  have h62 : mm_ok (([] : List Nat) ++ [1] ++ [2, 3, 4, 5, 6, 7, 8, 9, 10, 11, 12, 13, 14, 15, 16, 17, 18, 19, 20, 21, 22, 23, 24, 25, 26, 27, 28, 29, 30, 31, 32, 33, 34, 35, 36, 37, 38, 39, 40, 41, 42, 43, 44, 45, 46, 47, 48, 49, 50, 51, 52, 53, 54, 55, 56, 57, 58, 59, 60, 61] ++ [63] ++ [64, 65, 66, 67, 68, 69, 70, 71, 72, 73, 74, 75, 76, 77, 78, 79, 80, 81] ++ [62]) 62 4 0 := ⟨List.mem_append_right _ (List.mem_singleton_self _), rfl, rfl⟩
  refine kw_astore_n (L' := [some (.ref 0), some (.ref 1), some (.ref 63), some (.ref 62), none, none, none]) C d_Lw_law_19 (by decide) rfl ?_
  refine kw_iconst (v := 0) C d_Lw_law_20 (by decide) ?_
  refine kw_istore (L' := [some (.ref 0), some (.ref 1), some (.ref 63), some (.ref 62), some (.int 0), none, none]) C d_Lw_law_21 (by decide) rfl ?_
  refine kw_wide (cl' := 81) (sl' := 546047) (Nat.le_refl _) (Nat.le_refl _) ?_
  have hA9 := hA 0 (by decide)
  exact kw_wk (law_loop hl n f hf C Ce hSc (hA9.trans hb0) (([] : List Nat) ++ [1] ++ [2, 3, 4, 5, 6, 7, 8, 9, 10, 11, 12, 13, 14, 15, 16, 17, 18, 19, 20, 21, 22, 23, 24, 25, 26, 27, 28, 29, 30, 31, 32, 33, 34, 35, 36, 37, 38, 39, 40, 41, 42, 43, 44, 45, 46, 47, 48, 49, 50, 51, 52, 53, 54, 55, 56, 57, 58, 59, 60, 61] ++ [63] ++ [64, 65, 66, 67, 68, 69, 70, 71, 72, 73, 74, 75, 76, 77, 78, 79, 80, 81] ++ [62]) h1 h63 h62 rfl hA 81 546047 (by omega) (by omega) 0 σ9) ⟨Or.inr rfl, Or.inr rfl, Or.inr rfl, Or.inr rfl, Or.inr rfl, Or.inl rfl, Or.inl rfl, trivial⟩
