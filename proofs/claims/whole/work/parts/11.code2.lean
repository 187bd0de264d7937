def bk_X6_append_0 : List me_I := [(2, 1, 0, [], 1, 0, 0), (14, 11, 2, [], 3, 0, 0), (2, 1, 0, [], 1, 0, 0), (0, 255, 0, [], 3, 0, 0), (15, 21, 5, [], 3, 0, 0)]
def bk_X6_append_11 : List me_I := [(35, 1, 0, [391], 10, 0, 432)]
def bk_X6_append_21 : List me_I := [(2, 0, 2, [], 1, 0, 0), (19, 6, 0, [], 3, 0, 275), (19, 4, 4, [], 3, 0, 149), (0, 160, 0, [], 3, 0, 0), (15, 44, 2, [], 3, 0, 0), (35, 2, 0, [459], 10, 0, 468)]
def bk_X6_append_44 : List me_I := [(2, 0, 2, [], 1, 0, 0), (19, 6, 0, [], 3, 0, 275), (2, 1, 0, [], 1, 0, 0), (29, 57, 1, [4, 476, 477], 3, 0, 475), (2, 0, 2, [], 1, 0, 0), (19, 6, 0, [], 3, 0, 275), (19, 4, 4, [], 3, 0, 149), (32, 0, 0, [], 1, 0, 0)]
def cd_X6_append : List (Nat × List me_I) := [(0, bk_X6_append_0), (11, bk_X6_append_11), (21, bk_X6_append_21), (44, bk_X6_append_44)]
theorem bq_X6_append_0 : me_bk cd_X6_append 0 = bk_X6_append_0 := rfl
theorem bq_X6_append_11 : me_bk cd_X6_append 11 = bk_X6_append_11 := rfl
theorem bq_X6_append_21 : me_bk cd_X6_append 21 = bk_X6_append_21 := rfl
theorem bq_X6_append_44 : me_bk cd_X6_append 44 = bk_X6_append_44 := rfl
set_option maxRecDepth 100000 in
theorem ck_X6_append : cd_X6_append.all (fun q => me_bck mt_nm RX6 cX6_append 2 (some .int) [57] 2 q.2 q.1) = true := by decide +kernel
set_option maxRecDepth 100000 in
theorem cl_X6_append {l : Launch} {R : Room} {fr lo mc : Nat} {sp : me_P} (h : me_M l yX6_append (.code yX6_append cX6_append 2 (some .int)) fr lo mc sp) (h1 : fr + 1 ≤ R.frames) (h2 : lo + 21 ≤ R.locals) : me_cal mt_nm l R 74 (mc, sp) := ⟨cX6_append, 2, (some .int), fr, lo, h, List.mem_of_getElem? (i := 390) (by rfl), h1, by omega, List.mem_of_getElem? (i := 53) (by rfl), by decide, by decide⟩
def bk_X6_clearText_0 : List me_I := [(2, 0, 2, [], 1, 0, 0), (19, 6, 0, [], 3, 0, 275), (19, 4, 4, [], 3, 0, 149), (3, 1, 0, [], 1, 0, 0), (2, 0, 2, [], 1, 0, 0), (19, 6, 0, [], 3, 0, 275), (0, 0, 0, [], 1, 0, 0), (20, 4, 4, [], 3, 0, 149), (2, 1, 0, [], 1, 0, 0), (32, 0, 0, [], 1, 0, 0)]
def cd_X6_clearText : List (Nat × List me_I) := [(0, bk_X6_clearText_0)]
theorem bq_X6_clearText_0 : me_bk cd_X6_clearText 0 = bk_X6_clearText_0 := rfl
set_option maxRecDepth 100000 in
theorem ck_X6_clearText : cd_X6_clearText.all (fun q => me_bck mt_nm RX6 cX6_clearText 2 (some .int) [] 0 q.2 q.1) = true := by decide +kernel
set_option maxRecDepth 100000 in
theorem cl_X6_clearText {l : Launch} {R : Room} {fr lo mc : Nat} {sp : me_P} (h : me_M l yX6_clearText (.code yX6_clearText cX6_clearText 2 (some .int)) fr lo mc sp) (h1 : fr + 1 ≤ R.frames) (h2 : lo + 21 ≤ R.locals) : me_cal mt_nm l R 75 (mc, sp) := ⟨cX6_clearText, 2, (some .int), fr, lo, h, List.mem_of_getElem? (i := 309) (by rfl), h1, by omega, List.mem_of_getElem? (i := 53) (by rfl), by decide, by decide⟩
def bk_X6_errorPosition_0 : List me_I := [(2, 0, 2, [], 1, 0, 0), (19, 6, 0, [], 3, 0, 275), (29, 58, 0, [4, 315, 316], 3, 0, 314), (32, 0, 0, [], 1, 0, 0)]
def cd_X6_errorPosition : List (Nat × List me_I) := [(0, bk_X6_errorPosition_0)]
theorem bq_X6_errorPosition_0 : me_bk cd_X6_errorPosition 0 = bk_X6_errorPosition_0 := rfl
set_option maxRecDepth 100000 in
theorem ck_X6_errorPosition : cd_X6_errorPosition.all (fun q => me_bck mt_nm RX6 cX6_errorPosition 1 (some .int) [58] 0 q.2 q.1) = true := by decide +kernel
set_option maxRecDepth 100000 in
theorem cl_X6_errorPosition {l : Launch} {R : Room} {fr lo mc : Nat} {sp : me_P} (h : me_M l yX6_errorPosition (.code yX6_errorPosition cX6_errorPosition 1 (some .int)) fr lo mc sp) (h1 : fr + 1 ≤ R.frames) (h2 : lo + 20 ≤ R.locals) : me_cal mt_nm l R 76 (mc, sp) := ⟨cX6_errorPosition, 1, (some .int), fr, lo, h, List.mem_of_getElem? (i := 313) (by rfl), h1, by omega, List.mem_of_getElem? (i := 53) (by rfl), by decide, by decide⟩
def bk_X6_load_0 : List me_I := [(2, 0, 2, [], 1, 0, 0), (19, 6, 0, [], 3, 0, 275), (29, 58, 0, [4, 315, 316], 3, 0, 314), (0, 9, 1, [], 2, 0, 0), (15, 22, 0, [], 3, 0, 0), (35, 2, 0, [459], 10, 0, 486)]
def bk_X6_load_22 : List me_I := [(2, 0, 2, [], 1, 0, 0), (19, 6, 1, [], 3, 0, 276), (2, 0, 2, [], 1, 0, 0), (19, 6, 0, [], 3, 0, 275), (19, 4, 5, [], 3, 0, 151), (29, 31, 1, [3, 488, 489], 3, 0, 487), (2, 0, 2, [], 1, 0, 0), (19, 6, 2, [], 3, 0, 277), (29, 3, 0, [0, 501, 502], 3, 0, 500), (0, 0, 0, [], 1, 0, 0), (3, 1, 0, [], 1, 0, 0)]
def bk_X6_load_45 : List me_I := [(2, 1, 0, [], 1, 0, 0), (0, 2, 0, [], 1, 0, 0), (15, 63, 3, [], 3, 0, 0), (2, 0, 2, [], 1, 0, 0), (19, 6, 4, [], 3, 0, 279), (2, 1, 0, [], 1, 0, 0), (0, 0, 0, [], 1, 0, 0), (26, 0, 0, [], 1, 0, 0), (13, 1, 1, [], 3, 0, 0), (16, 45, 0, [], 3, 0, 0)]
def bk_X6_load_63 : List me_I := [(2, 0, 2, [], 1, 0, 0), (19, 6, 1, [], 3, 0, 276), (19, 3, 0, [], 3, 0, 95), (32, 0, 0, [], 1, 0, 0)]
def cd_X6_load : List (Nat × List me_I) := [(0, bk_X6_load_0), (22, bk_X6_load_22), (45, bk_X6_load_45), (63, bk_X6_load_63)]
theorem bq_X6_load_0 : me_bk cd_X6_load 0 = bk_X6_load_0 := rfl
theorem bq_X6_load_22 : me_bk cd_X6_load 22 = bk_X6_load_22 := rfl
theorem bq_X6_load_45 : me_bk cd_X6_load 45 = bk_X6_load_45 := rfl
theorem bq_X6_load_63 : me_bk cd_X6_load 63 = bk_X6_load_63 := rfl
set_option maxRecDepth 100000 in
theorem ck_X6_load : cd_X6_load.all (fun q => me_bck mt_nm RX6 cX6_load 2 (some .int) [3, 31, 58] 2 q.2 q.1) = true := by decide +kernel
set_option maxRecDepth 100000 in
theorem cl_X6_load {l : Launch} {R : Room} {fr lo mc : Nat} {sp : me_P} (h : me_M l yX6_load (.code yX6_load cX6_load 2 (some .int)) fr lo mc sp) (h1 : fr + 1 ≤ R.frames) (h2 : lo + 21 ≤ R.locals) : me_cal mt_nm l R 77 (mc, sp) := ⟨cX6_load, 2, (some .int), fr, lo, h, List.mem_of_getElem? (i := 485) (by rfl), h1, by omega, List.mem_of_getElem? (i := 53) (by rfl), by decide, by decide⟩
def bk_X6_about_0 : List me_I := [(2, 1, 0, [], 1, 0, 0), (17, 0, 0, [76, 36, 44, 52, 60, 68], 35, 0, 0)]
def bk_X6_about_36 : List me_I := [(2, 0, 2, [], 1, 0, 0), (19, 6, 1, [], 3, 0, 276), (19, 3, 0, [], 3, 0, 95), (32, 0, 0, [], 1, 0, 0)]
def bk_X6_about_44 : List me_I := [(2, 0, 2, [], 1, 0, 0), (19, 6, 1, [], 3, 0, 276), (19, 3, 1, [], 3, 0, 98), (32, 0, 0, [], 1, 0, 0)]
def bk_X6_about_52 : List me_I := [(2, 0, 2, [], 1, 0, 0), (19, 6, 1, [], 3, 0, 276), (29, 46, 0, [3, 512, 513], 3, 0, 511), (32, 0, 0, [], 1, 0, 0)]
def bk_X6_about_60 : List me_I := [(2, 0, 2, [], 1, 0, 0), (19, 6, 1, [], 3, 0, 276), (29, 47, 0, [3, 516, 517], 3, 0, 515), (32, 0, 0, [], 1, 0, 0)]
def bk_X6_about_68 : List me_I := [(2, 0, 2, [], 1, 0, 0), (19, 6, 1, [], 3, 0, 276), (29, 48, 0, [3, 524, 525], 3, 0, 523), (32, 0, 0, [], 1, 0, 0)]
def bk_X6_about_76 : List me_I := [(35, 1, 0, [391], 10, 0, 527)]
def cd_X6_about : List (Nat × List me_I) := [(0, bk_X6_about_0), (36, bk_X6_about_36), (44, bk_X6_about_44), (52, bk_X6_about_52), (60, bk_X6_about_60), (68, bk_X6_about_68), (76, bk_X6_about_76)]
theorem bq_X6_about_0 : me_bk cd_X6_about 0 = bk_X6_about_0 := rfl
theorem bq_X6_about_36 : me_bk cd_X6_about 36 = bk_X6_about_36 := rfl
theorem bq_X6_about_44 : me_bk cd_X6_about 44 = bk_X6_about_44 := rfl
theorem bq_X6_about_52 : me_bk cd_X6_about 52 = bk_X6_about_52 := rfl
theorem bq_X6_about_60 : me_bk cd_X6_about 60 = bk_X6_about_60 := rfl
theorem bq_X6_about_68 : me_bk cd_X6_about 68 = bk_X6_about_68 := rfl
theorem bq_X6_about_76 : me_bk cd_X6_about 76 = bk_X6_about_76 := rfl
set_option maxRecDepth 100000 in
theorem ck_X6_about : cd_X6_about.all (fun q => me_bck mt_nm RX6 cX6_about 2 (some .int) [46, 47, 48] 2 q.2 q.1) = true := by decide +kernel
set_option maxRecDepth 100000 in
theorem cl_X6_about {l : Launch} {R : Room} {fr lo mc : Nat} {sp : me_P} (h : me_M l yX6_about (.code yX6_about cX6_about 2 (some .int)) fr lo mc sp) (h1 : fr + 1 ≤ R.frames) (h2 : lo + 21 ≤ R.locals) : me_cal mt_nm l R 78 (mc, sp) := ⟨cX6_about, 2, (some .int), fr, lo, h, List.mem_of_getElem? (i := 510) (by rfl), h1, by omega, List.mem_of_getElem? (i := 53) (by rfl), by decide, by decide⟩
def bk_X6_bar_0 : List me_I := [(2, 0, 2, [], 1, 0, 0), (2, 1, 0, [], 1, 0, 0), (29, 107, 1, [6, 538, 11], 3, 0, 536), (2, 2, 0, [], 1, 0, 0), (17, 0, 0, [130, 44, 54, 63, 90, 100, 109], 38, 0, 0)]
def bk_X6_bar_44 : List me_I := [(2, 0, 2, [], 1, 0, 0), (19, 6, 1, [], 3, 0, 276), (19, 3, 2, [], 3, 0, 102), (2, 1, 0, [], 1, 0, 0), (21, 0, 0, [], 1, 0, 0), (32, 0, 0, [], 1, 0, 0)]
def bk_X6_bar_54 : List me_I := [(2, 0, 2, [], 1, 0, 0), (19, 6, 1, [], 3, 0, 276), (2, 1, 0, [], 1, 0, 0), (29, 39, 1, [3, 561, 562], 3, 0, 560), (32, 0, 0, [], 1, 0, 0)]
def bk_X6_bar_63 : List me_I := [(2, 0, 2, [], 1, 0, 0), (19, 6, 1, [], 3, 0, 276), (19, 3, 3, [], 3, 0, 106), (2, 1, 0, [], 1, 0, 0), (21, 0, 0, [], 1, 0, 0), (14, 80, 1, [], 3, 0, 0), (0, 9, 1, [], 2, 0, 0), (16, 89, 0, [], 3, 0, 0)]
def bk_X6_bar_80 : List me_I := [(2, 0, 2, [], 1, 0, 0), (19, 6, 1, [], 3, 0, 276), (19, 3, 3, [], 3, 0, 106), (2, 1, 0, [], 1, 0, 0), (21, 0, 0, [], 1, 0, 0)]
def bk_X6_bar_89 : List me_I := [(32, 0, 0, [], 1, 0, 0)]
def bk_X6_bar_90 : List me_I := [(2, 0, 2, [], 1, 0, 0), (19, 6, 1, [], 3, 0, 276), (19, 3, 5, [], 3, 0, 110), (2, 1, 0, [], 1, 0, 0), (21, 0, 0, [], 1, 0, 0), (32, 0, 0, [], 1, 0, 0)]
def bk_X6_bar_100 : List me_I := [(2, 0, 2, [], 1, 0, 0), (19, 6, 1, [], 3, 0, 276), (2, 1, 0, [], 1, 0, 0), (29, 40, 1, [3, 565, 566], 3, 0, 564), (32, 0, 0, [], 1, 0, 0)]
def bk_X6_bar_109 : List me_I := [(2, 0, 2, [], 1, 0, 0), (19, 6, 1, [], 3, 0, 276), (2, 1, 0, [], 1, 0, 0), (29, 42, 1, [3, 569, 570], 3, 0, 568), (2, 0, 2, [], 1, 0, 0), (19, 6, 1, [], 3, 0, 276), (2, 1, 0, [], 1, 0, 0), (29, 39, 1, [3, 561, 562], 3, 0, 560), (30, 121, 1, [573], 3, 0, 572), (4, 2, 0, [], 1, 0, 0), (32, 0, 0, [], 1, 0, 0)]
def bk_X6_bar_130 : List me_I := [(35, 1, 0, [391], 10, 0, 576)]
def cd_X6_bar : List (Nat × List me_I) := [(0, bk_X6_bar_0), (44, bk_X6_bar_44), (54, bk_X6_bar_54), (63, bk_X6_bar_63), (80, bk_X6_bar_80), (89, bk_X6_bar_89), (90, bk_X6_bar_90), (100, bk_X6_bar_100), (109, bk_X6_bar_109), (130, bk_X6_bar_130)]
theorem bq_X6_bar_0 : me_bk cd_X6_bar 0 = bk_X6_bar_0 := rfl
theorem bq_X6_bar_44 : me_bk cd_X6_bar 44 = bk_X6_bar_44 := rfl
theorem bq_X6_bar_54 : me_bk cd_X6_bar 54 = bk_X6_bar_54 := rfl
theorem bq_X6_bar_63 : me_bk cd_X6_bar 63 = bk_X6_bar_63 := rfl
theorem bq_X6_bar_80 : me_bk cd_X6_bar 80 = bk_X6_bar_80 := rfl
theorem bq_X6_bar_89 : me_bk cd_X6_bar 89 = bk_X6_bar_89 := rfl
theorem bq_X6_bar_90 : me_bk cd_X6_bar 90 = bk_X6_bar_90 := rfl
theorem bq_X6_bar_100 : me_bk cd_X6_bar 100 = bk_X6_bar_100 := rfl
theorem bq_X6_bar_109 : me_bk cd_X6_bar 109 = bk_X6_bar_109 := rfl
theorem bq_X6_bar_130 : me_bk cd_X6_bar 130 = bk_X6_bar_130 := rfl
set_option maxRecDepth 100000 in
theorem ck_X6_bar : cd_X6_bar.all (fun q => me_bck mt_nm RX6 cX6_bar 3 (some .int) [39, 40, 42, 107, 121] 2 q.2 q.1) = true := by decide +kernel
set_option maxRecDepth 100000 in
theorem cl_X6_bar {l : Launch} {R : Room} {fr lo mc : Nat} {sp : me_P} (h : me_M l yX6_bar (.code yX6_bar cX6_bar 3 (some .int)) fr lo mc sp) (h1 : fr + 1 ≤ R.frames) (h2 : lo + 22 ≤ R.locals) : me_cal mt_nm l R 79 (mc, sp) := ⟨cX6_bar, 3, (some .int), fr, lo, h, List.mem_of_getElem? (i := 535) (by rfl), h1, by omega, List.mem_of_getElem? (i := 53) (by rfl), by decide, by decide⟩
def bk_X6_stretch_0 : List me_I := [(2, 0, 2, [], 1, 0, 0), (2, 1, 0, [], 1, 0, 0), (29, 107, 1, [6, 538, 11], 3, 0, 536), (2, 0, 2, [], 1, 0, 0), (19, 6, 1, [], 3, 0, 276), (2, 1, 0, [], 1, 0, 0), (2, 2, 0, [], 1, 0, 0), (29, 35, 2, [3, 585, 586], 3, 0, 584), (14, 27, 1, [], 3, 0, 0), (35, 1, 0, [391], 10, 0, 588)]
def bk_X6_stretch_27 : List me_I := [(2, 0, 2, [], 1, 0, 0), (19, 6, 1, [], 3, 0, 276), (2, 1, 0, [], 1, 0, 0), (2, 2, 0, [], 1, 0, 0), (29, 38, 2, [3, 520, 521], 3, 0, 589), (32, 0, 0, [], 1, 0, 0)]
def cd_X6_stretch : List (Nat × List me_I) := [(0, bk_X6_stretch_0), (27, bk_X6_stretch_27)]
theorem bq_X6_stretch_0 : me_bk cd_X6_stretch 0 = bk_X6_stretch_0 := rfl
theorem bq_X6_stretch_27 : me_bk cd_X6_stretch 27 = bk_X6_stretch_27 := rfl
set_option maxRecDepth 100000 in
theorem ck_X6_stretch : cd_X6_stretch.all (fun q => me_bck mt_nm RX6 cX6_stretch 3 (some .int) [35, 38, 107] 2 q.2 q.1) = true := by decide +kernel
set_option maxRecDepth 100000 in
theorem cl_X6_stretch {l : Launch} {R : Room} {fr lo mc : Nat} {sp : me_P} (h : me_M l yX6_stretch (.code yX6_stretch cX6_stretch 3 (some .int)) fr lo mc sp) (h1 : fr + 1 ≤ R.frames) (h2 : lo + 22 ≤ R.locals) : me_cal mt_nm l R 80 (mc, sp) := ⟨cX6_stretch, 3, (some .int), fr, lo, h, List.mem_of_getElem? (i := 583) (by rfl), h1, by omega, List.mem_of_getElem? (i := 53) (by rfl), by decide, by decide⟩
def bk_X6_section_0 : List me_I := [(2, 0, 2, [], 1, 0, 0), (2, 1, 0, [], 1, 0, 0), (29, 108, 1, [6, 599, 12], 3, 0, 597), (2, 2, 0, [], 1, 0, 0), (17, 0, 0, [62, 32, 42, 52], 26, 0, 0)]
def bk_X6_section_32 : List me_I := [(2, 0, 2, [], 1, 0, 0), (19, 6, 1, [], 3, 0, 276), (19, 3, 6, [], 3, 0, 113), (2, 1, 0, [], 1, 0, 0), (21, 0, 0, [], 1, 0, 0), (32, 0, 0, [], 1, 0, 0)]
def bk_X6_section_42 : List me_I := [(2, 0, 2, [], 1, 0, 0), (19, 6, 1, [], 3, 0, 276), (19, 3, 7, [], 3, 0, 116), (2, 1, 0, [], 1, 0, 0), (21, 0, 0, [], 1, 0, 0), (32, 0, 0, [], 1, 0, 0)]
def bk_X6_section_52 : List me_I := [(2, 0, 2, [], 1, 0, 0), (19, 6, 1, [], 3, 0, 276), (19, 3, 8, [], 3, 0, 119), (2, 1, 0, [], 1, 0, 0), (21, 0, 0, [], 1, 0, 0), (32, 0, 0, [], 1, 0, 0)]
def bk_X6_section_62 : List me_I := [(35, 1, 0, [391], 10, 0, 606)]
def cd_X6_section : List (Nat × List me_I) := [(0, bk_X6_section_0), (32, bk_X6_section_32), (42, bk_X6_section_42), (52, bk_X6_section_52), (62, bk_X6_section_62)]
theorem bq_X6_section_0 : me_bk cd_X6_section 0 = bk_X6_section_0 := rfl
theorem bq_X6_section_32 : me_bk cd_X6_section 32 = bk_X6_section_32 := rfl
theorem bq_X6_section_42 : me_bk cd_X6_section 42 = bk_X6_section_42 := rfl
theorem bq_X6_section_52 : me_bk cd_X6_section 52 = bk_X6_section_52 := rfl
theorem bq_X6_section_62 : me_bk cd_X6_section 62 = bk_X6_section_62 := rfl
set_option maxRecDepth 100000 in
theorem ck_X6_section : cd_X6_section.all (fun q => me_bck mt_nm RX6 cX6_section 3 (some .int) [108] 2 q.2 q.1) = true := by decide +kernel
set_option maxRecDepth 100000 in
theorem cl_X6_section {l : Launch} {R : Room} {fr lo mc : Nat} {sp : me_P} (h : me_M l yX6_section (.code yX6_section cX6_section 3 (some .int)) fr lo mc sp) (h1 : fr + 1 ≤ R.frames) (h2 : lo + 22 ≤ R.locals) : me_cal mt_nm l R 81 (mc, sp) := ⟨cX6_section, 3, (some .int), fr, lo, h, List.mem_of_getElem? (i := 596) (by rfl), h1, by omega, List.mem_of_getElem? (i := 53) (by rfl), by decide, by decide⟩
def bk_X6_places_0 : List me_I := [(2, 1, 0, [], 1, 0, 0), (30, 109, 1, [615], 3, 0, 614), (2, 0, 2, [], 1, 0, 0), (19, 6, 5, [], 3, 0, 280), (2, 0, 2, [], 1, 0, 0), (19, 6, 1, [], 3, 0, 276), (2, 1, 0, [], 1, 0, 0), (29, 5, 2, [1, 622, 623], 3, 0, 621), (2, 0, 2, [], 1, 0, 0), (19, 6, 5, [], 3, 0, 280), (19, 1, 0, [], 3, 0, 194), (32, 0, 0, [], 1, 0, 0)]
def cd_X6_places : List (Nat × List me_I) := [(0, bk_X6_places_0)]
theorem bq_X6_places_0 : me_bk cd_X6_places 0 = bk_X6_places_0 := rfl
set_option maxRecDepth 100000 in
theorem ck_X6_places : cd_X6_places.all (fun q => me_bck mt_nm RX6 cX6_places 2 (some .int) [5, 109] 0 q.2 q.1) = true := by decide +kernel
set_option maxRecDepth 100000 in
theorem cl_X6_places {l : Launch} {R : Room} {fr lo mc : Nat} {sp : me_P} (h : me_M l yX6_places (.code yX6_places cX6_places 2 (some .int)) fr lo mc sp) (h1 : fr + 1 ≤ R.frames) (h2 : lo + 21 ≤ R.locals) : me_cal mt_nm l R 82 (mc, sp) := ⟨cX6_places, 2, (some .int), fr, lo, h, List.mem_of_getElem? (i := 613) (by rfl), h1, by omega, List.mem_of_getElem? (i := 53) (by rfl), by decide, by decide⟩
def bk_X6_place_0 : List me_I := [(2, 1, 0, [], 1, 0, 0), (30, 109, 1, [615], 3, 0, 614), (2, 2, 0, [], 1, 0, 0), (14, 18, 3, [], 3, 0, 0), (35, 1, 0, [391], 10, 0, 652)]
def bk_X6_place_18 : List me_I := [(2, 3, 0, [], 1, 0, 0), (14, 27, 2, [], 3, 0, 0), (2, 3, 0, [], 1, 0, 0), (0, 2, 0, [], 1, 0, 0), (15, 37, 5, [], 3, 0, 0)]
def bk_X6_place_27 : List me_I := [(35, 1, 0, [391], 10, 0, 606)]
def bk_X6_place_37 : List me_I := [(2, 0, 2, [], 1, 0, 0), (19, 6, 5, [], 3, 0, 280), (2, 0, 2, [], 1, 0, 0), (19, 6, 1, [], 3, 0, 276), (2, 1, 0, [], 1, 0, 0), (29, 5, 2, [1, 622, 623], 3, 0, 621), (2, 2, 0, [], 1, 0, 0), (2, 0, 2, [], 1, 0, 0), (19, 6, 5, [], 3, 0, 280), (19, 1, 0, [], 3, 0, 194), (15, 63, 2, [], 3, 0, 0), (0, 9, 1, [], 2, 0, 0), (32, 0, 0, [], 1, 0, 0)]
def bk_X6_place_63 : List me_I := [(2, 3, 0, [], 1, 0, 0), (18, 0, 0, [0, 92, 1, 102, 112], 28, 0, 0)]
def bk_X6_place_92 : List me_I := [(2, 0, 2, [], 1, 0, 0), (19, 6, 5, [], 3, 0, 280), (19, 1, 2, [], 3, 0, 200), (2, 2, 0, [], 1, 0, 0), (21, 0, 0, [], 1, 0, 0), (32, 0, 0, [], 1, 0, 0)]
def bk_X6_place_102 : List me_I := [(2, 0, 2, [], 1, 0, 0), (19, 6, 5, [], 3, 0, 280), (19, 1, 3, [], 3, 0, 202), (2, 2, 0, [], 1, 0, 0), (21, 0, 0, [], 1, 0, 0), (32, 0, 0, [], 1, 0, 0)]
def bk_X6_place_112 : List me_I := [(2, 0, 2, [], 1, 0, 0), (19, 6, 5, [], 3, 0, 280), (2, 2, 0, [], 1, 0, 0), (29, 8, 1, [1, 654, 655], 3, 0, 653), (32, 0, 0, [], 1, 0, 0)]
def cd_X6_place : List (Nat × List me_I) := [(0, bk_X6_place_0), (18, bk_X6_place_18), (27, bk_X6_place_27), (37, bk_X6_place_37), (63, bk_X6_place_63), (92, bk_X6_place_92), (102, bk_X6_place_102), (112, bk_X6_place_112)]
theorem bq_X6_place_0 : me_bk cd_X6_place 0 = bk_X6_place_0 := rfl
theorem bq_X6_place_18 : me_bk cd_X6_place 18 = bk_X6_place_18 := rfl
theorem bq_X6_place_27 : me_bk cd_X6_place 27 = bk_X6_place_27 := rfl
theorem bq_X6_place_37 : me_bk cd_X6_place 37 = bk_X6_place_37 := rfl
theorem bq_X6_place_63 : me_bk cd_X6_place 63 = bk_X6_place_63 := rfl
theorem bq_X6_place_92 : me_bk cd_X6_place 92 = bk_X6_place_92 := rfl
theorem bq_X6_place_102 : me_bk cd_X6_place 102 = bk_X6_place_102 := rfl
theorem bq_X6_place_112 : me_bk cd_X6_place 112 = bk_X6_place_112 := rfl
set_option maxRecDepth 100000 in
theorem ck_X6_place : cd_X6_place.all (fun q => me_bck mt_nm RX6 cX6_place 4 (some .int) [5, 8, 109] 2 q.2 q.1) = true := by decide +kernel
set_option maxRecDepth 100000 in
theorem cl_X6_place {l : Launch} {R : Room} {fr lo mc : Nat} {sp : me_P} (h : me_M l yX6_place (.code yX6_place cX6_place 4 (some .int)) fr lo mc sp) (h1 : fr + 1 ≤ R.frames) (h2 : lo + 23 ≤ R.locals) : me_cal mt_nm l R 83 (mc, sp) := ⟨cX6_place, 4, (some .int), fr, lo, h, List.mem_of_getElem? (i := 651) (by rfl), h1, by omega, List.mem_of_getElem? (i := 53) (by rfl), by decide, by decide⟩
def bk_X6_begins_0 : List me_I := [(2, 1, 0, [], 1, 0, 0), (30, 109, 1, [615], 3, 0, 614), (2, 0, 2, [], 1, 0, 0), (19, 6, 5, [], 3, 0, 280), (2, 0, 2, [], 1, 0, 0), (19, 6, 1, [], 3, 0, 276), (2, 1, 0, [], 1, 0, 0), (29, 5, 2, [1, 622, 623], 3, 0, 621), (2, 2, 0, [], 1, 0, 0), (14, 31, 2, [], 3, 0, 0), (2, 2, 0, [], 1, 0, 0), (2, 0, 2, [], 1, 0, 0), (19, 6, 5, [], 3, 0, 280), (19, 1, 0, [], 3, 0, 194), (15, 41, 5, [], 3, 0, 0)]
def bk_X6_begins_31 : List me_I := [(35, 1, 0, [391], 10, 0, 664)]
def bk_X6_begins_41 : List me_I := [(2, 2, 0, [], 1, 0, 0), (2, 0, 2, [], 1, 0, 0), (19, 6, 5, [], 3, 0, 280), (19, 1, 0, [], 3, 0, 194), (15, 62, 1, [], 3, 0, 0), (2, 0, 2, [], 1, 0, 0), (19, 6, 5, [], 3, 0, 280), (19, 1, 1, [], 3, 0, 198), (16, 71, 0, [], 3, 0, 0)]
def bk_X6_begins_62 : List me_I := [(2, 0, 2, [], 1, 0, 0), (19, 6, 5, [], 3, 0, 280), (19, 1, 4, [], 3, 0, 204), (2, 2, 0, [], 1, 0, 0), (23, 0, 0, [], 1, 0, 0)]
def bk_X6_begins_71 : List me_I := [(33, 0, 0, [], 1, 0, 0)]
def cd_X6_begins : List (Nat × List me_I) := [(0, bk_X6_begins_0), (31, bk_X6_begins_31), (41, bk_X6_begins_41), (62, bk_X6_begins_62), (71, bk_X6_begins_71)]
theorem bq_X6_begins_0 : me_bk cd_X6_begins 0 = bk_X6_begins_0 := rfl
theorem bq_X6_begins_31 : me_bk cd_X6_begins 31 = bk_X6_begins_31 := rfl
theorem bq_X6_begins_41 : me_bk cd_X6_begins 41 = bk_X6_begins_41 := rfl
theorem bq_X6_begins_62 : me_bk cd_X6_begins 62 = bk_X6_begins_62 := rfl
theorem bq_X6_begins_71 : me_bk cd_X6_begins 71 = bk_X6_begins_71 := rfl
set_option maxRecDepth 100000 in
theorem ck_X6_begins : cd_X6_begins.all (fun q => me_bck mt_nm RX6 cX6_begins 3 (some .long) [5, 109] 2 q.2 q.1) = true := by decide +kernel
set_option maxRecDepth 100000 in
theorem cl_X6_begins {l : Launch} {R : Room} {fr lo mc : Nat} {sp : me_P} (h : me_M l yX6_begins (.code yX6_begins cX6_begins 3 (some .long)) fr lo mc sp) (h1 : fr + 1 ≤ R.frames) (h2 : lo + 22 ≤ R.locals) : me_cal mt_nm l R 84 (mc, sp) := ⟨cX6_begins, 3, (some .long), fr, lo, h, List.mem_of_getElem? (i := 663) (by rfl), h1, by omega, List.mem_of_getElem? (i := 53) (by rfl), by decide, by decide⟩
def bk_X6_find_0 : List me_I := [(2, 1, 0, [], 1, 0, 0), (30, 109, 1, [615], 3, 0, 614), (2, 0, 2, [], 1, 0, 0), (2, 2, 0, [], 1, 0, 0), (29, 107, 1, [6, 538, 11], 3, 0, 536), (2, 3, 0, [], 1, 0, 0), (30, 111, 1, [673], 3, 0, 672), (2, 0, 2, [], 1, 0, 0), (19, 6, 5, [], 3, 0, 280), (2, 0, 2, [], 1, 0, 0), (19, 6, 1, [], 3, 0, 276), (2, 1, 0, [], 1, 0, 0), (29, 5, 2, [1, 622, 623], 3, 0, 621), (2, 0, 2, [], 1, 0, 0), (19, 6, 5, [], 3, 0, 280), (2, 2, 0, [], 1, 0, 0), (2, 3, 0, [], 1, 0, 0), (29, 9, 2, [1, 680, 681], 3, 0, 679), (32, 0, 0, [], 1, 0, 0)]
def cd_X6_find : List (Nat × List me_I) := [(0, bk_X6_find_0)]
theorem bq_X6_find_0 : me_bk cd_X6_find 0 = bk_X6_find_0 := rfl
set_option maxRecDepth 100000 in
theorem ck_X6_find : cd_X6_find.all (fun q => me_bck mt_nm RX6 cX6_find 4 (some .int) [5, 9, 107, 109, 111] 0 q.2 q.1) = true := by decide +kernel
set_option maxRecDepth 100000 in
theorem cl_X6_find {l : Launch} {R : Room} {fr lo mc : Nat} {sp : me_P} (h : me_M l yX6_find (.code yX6_find cX6_find 4 (some .int)) fr lo mc sp) (h1 : fr + 1 ≤ R.frames) (h2 : lo + 23 ≤ R.locals) : me_cal mt_nm l R 85 (mc, sp) := ⟨cX6_find, 4, (some .int), fr, lo, h, List.mem_of_getElem? (i := 671) (by rfl), h1, by omega, List.mem_of_getElem? (i := 53) (by rfl), by decide, by decide⟩
def bk_X6_at_0 : List me_I := [(2, 1, 0, [], 1, 0, 0), (30, 109, 1, [615], 3, 0, 614), (2, 2, 1, [], 1, 0, 0), (30, 112, 1, [691], 3, 0, 690), (2, 0, 2, [], 1, 0, 0), (19, 6, 5, [], 3, 0, 280), (2, 0, 2, [], 1, 0, 0), (19, 6, 1, [], 3, 0, 276), (2, 1, 0, [], 1, 0, 0), (29, 5, 2, [1, 622, 623], 3, 0, 621), (2, 0, 2, [], 1, 0, 0), (19, 6, 5, [], 3, 0, 280), (2, 2, 1, [], 1, 0, 0), (29, 12, 1, [1, 695, 696], 3, 0, 694), (32, 0, 0, [], 1, 0, 0)]
def cd_X6_at : List (Nat × List me_I) := [(0, bk_X6_at_0)]
theorem bq_X6_at_0 : me_bk cd_X6_at 0 = bk_X6_at_0 := rfl
set_option maxRecDepth 100000 in
theorem ck_X6_at : cd_X6_at.all (fun q => me_bck mt_nm RX6 cX6_at 4 (some .int) [5, 12, 109, 112] 0 q.2 q.1) = true := by decide +kernel
set_option maxRecDepth 100000 in
theorem cl_X6_at {l : Launch} {R : Room} {fr lo mc : Nat} {sp : me_P} (h : me_M l yX6_at (.code yX6_at cX6_at 4 (some .int)) fr lo mc sp) (h1 : fr + 1 ≤ R.frames) (h2 : lo + 23 ≤ R.locals) : me_cal mt_nm l R 86 (mc, sp) := ⟨cX6_at, 4, (some .int), fr, lo, h, List.mem_of_getElem? (i := 689) (by rfl), h1, by omega, List.mem_of_getElem? (i := 53) (by rfl), by decide, by decide⟩
def bk_X6_nextClick_0 : List me_I := [(2, 1, 0, [], 1, 0, 0), (30, 109, 1, [615], 3, 0, 614), (2, 2, 1, [], 1, 0, 0), (30, 112, 1, [691], 3, 0, 690), (2, 0, 2, [], 1, 0, 0), (19, 6, 5, [], 3, 0, 280), (2, 0, 2, [], 1, 0, 0), (19, 6, 1, [], 3, 0, 276), (2, 1, 0, [], 1, 0, 0), (29, 5, 2, [1, 622, 623], 3, 0, 621), (2, 0, 2, [], 1, 0, 0), (19, 6, 5, [], 3, 0, 280), (2, 2, 1, [], 1, 0, 0), (29, 11, 1, [1, 706, 707], 3, 0, 705), (33, 0, 0, [], 1, 0, 0)]
def cd_X6_nextClick : List (Nat × List me_I) := [(0, bk_X6_nextClick_0)]
theorem bq_X6_nextClick_0 : me_bk cd_X6_nextClick 0 = bk_X6_nextClick_0 := rfl
set_option maxRecDepth 100000 in
theorem ck_X6_nextClick : cd_X6_nextClick.all (fun q => me_bck mt_nm RX6 cX6_nextClick 4 (some .long) [5, 11, 109, 112] 0 q.2 q.1) = true := by decide +kernel
set_option maxRecDepth 100000 in
theorem cl_X6_nextClick {l : Launch} {R : Room} {fr lo mc : Nat} {sp : me_P} (h : me_M l yX6_nextClick (.code yX6_nextClick cX6_nextClick 4 (some .long)) fr lo mc sp) (h1 : fr + 1 ≤ R.frames) (h2 : lo + 23 ≤ R.locals) : me_cal mt_nm l R 87 (mc, sp) := ⟨cX6_nextClick, 4, (some .long), fr, lo, h, List.mem_of_getElem? (i := 704) (by rfl), h1, by omega, List.mem_of_getElem? (i := 53) (by rfl), by decide, by decide⟩
def bk_X6_clicks_0 : List me_I := [(2, 1, 0, [], 1, 0, 0), (30, 109, 1, [615], 3, 0, 614), (2, 2, 1, [], 1, 0, 0), (30, 112, 1, [691], 3, 0, 690), (2, 4, 1, [], 2, 0, 0), (2, 2, 1, [], 1, 0, 0), (9, 0, 0, [], 1, 0, 0), (14, 25, 3, [], 3, 0, 0), (35, 1, 0, [391], 10, 0, 721)]
def bk_X6_clicks_25 : List me_I := [(2, 0, 2, [], 1, 0, 0), (19, 6, 5, [], 3, 0, 280), (2, 0, 2, [], 1, 0, 0), (19, 6, 1, [], 3, 0, 276), (2, 1, 0, [], 1, 0, 0), (29, 5, 2, [1, 622, 623], 3, 0, 621), (2, 0, 2, [], 1, 0, 0), (19, 6, 5, [], 3, 0, 280), (2, 4, 1, [], 2, 0, 0), (29, 10, 1, [1, 710, 711], 3, 0, 722), (2, 0, 2, [], 1, 0, 0), (19, 6, 5, [], 3, 0, 280), (2, 2, 1, [], 1, 0, 0), (29, 10, 1, [1, 710, 711], 3, 0, 722), (4, 1, 0, [], 1, 0, 0), (32, 0, 0, [], 1, 0, 0)]
def cd_X6_clicks : List (Nat × List me_I) := [(0, bk_X6_clicks_0), (25, bk_X6_clicks_25)]
theorem bq_X6_clicks_0 : me_bk cd_X6_clicks 0 = bk_X6_clicks_0 := rfl
theorem bq_X6_clicks_25 : me_bk cd_X6_clicks 25 = bk_X6_clicks_25 := rfl
set_option maxRecDepth 100000 in
theorem ck_X6_clicks : cd_X6_clicks.all (fun q => me_bck mt_nm RX6 cX6_clicks 6 (some .int) [5, 10, 109, 112] 2 q.2 q.1) = true := by decide +kernel
set_option maxRecDepth 100000 in
theorem cl_X6_clicks {l : Launch} {R : Room} {fr lo mc : Nat} {sp : me_P} (h : me_M l yX6_clicks (.code yX6_clicks cX6_clicks 6 (some .int)) fr lo mc sp) (h1 : fr + 1 ≤ R.frames) (h2 : lo + 25 ≤ R.locals) : me_cal mt_nm l R 88 (mc, sp) := ⟨cX6_clicks, 6, (some .int), fr, lo, h, List.mem_of_getElem? (i := 720) (by rfl), h1, by omega, List.mem_of_getElem? (i := 53) (by rfl), by decide, by decide⟩
def bk_X6_missed_0 : List me_I := [(2, 1, 0, [], 1, 0, 0), (30, 109, 1, [615], 3, 0, 614), (2, 0, 2, [], 1, 0, 0), (19, 6, 5, [], 3, 0, 280), (2, 0, 2, [], 1, 0, 0), (19, 6, 1, [], 3, 0, 276), (2, 1, 0, [], 1, 0, 0), (29, 5, 2, [1, 622, 623], 3, 0, 621), (2, 0, 2, [], 1, 0, 0), (19, 6, 1, [], 3, 0, 276), (29, 44, 0, [3, 731, 732], 3, 0, 730), (2, 0, 2, [], 1, 0, 0), (19, 6, 5, [], 3, 0, 280), (19, 1, 0, [], 3, 0, 194), (4, 1, 0, [], 1, 0, 0), (32, 0, 0, [], 1, 0, 0)]
def cd_X6_missed : List (Nat × List me_I) := [(0, bk_X6_missed_0)]
theorem bq_X6_missed_0 : me_bk cd_X6_missed 0 = bk_X6_missed_0 := rfl
set_option maxRecDepth 100000 in
theorem ck_X6_missed : cd_X6_missed.all (fun q => me_bck mt_nm RX6 cX6_missed 2 (some .int) [5, 44, 109] 0 q.2 q.1) = true := by decide +kernel
set_option maxRecDepth 100000 in
theorem cl_X6_missed {l : Launch} {R : Room} {fr lo mc : Nat} {sp : me_P} (h : me_M l yX6_missed (.code yX6_missed cX6_missed 2 (some .int)) fr lo mc sp) (h1 : fr + 1 ≤ R.frames) (h2 : lo + 21 ≤ R.locals) : me_cal mt_nm l R 89 (mc, sp) := ⟨cX6_missed, 2, (some .int), fr, lo, h, List.mem_of_getElem? (i := 729) (by rfl), h1, by omega, List.mem_of_getElem? (i := 53) (by rfl), by decide, by decide⟩
def bk_X6_together_0 : List me_I := [(2, 0, 2, [], 1, 0, 0), (2, 1, 0, [], 1, 0, 0), (2, 2, 0, [], 1, 0, 0), (29, 113, 2, [6, 748, 15], 3, 0, 746), (2, 0, 2, [], 1, 0, 0), (19, 6, 5, [], 3, 0, 280), (2, 0, 2, [], 1, 0, 0), (19, 6, 6, [], 3, 0, 281), (29, 13, 1, [1, 751, 752], 3, 0, 750), (32, 0, 0, [], 1, 0, 0)]
def cd_X6_together : List (Nat × List me_I) := [(0, bk_X6_together_0)]
theorem bq_X6_together_0 : me_bk cd_X6_together 0 = bk_X6_together_0 := rfl
set_option maxRecDepth 100000 in
theorem ck_X6_together : cd_X6_together.all (fun q => me_bck mt_nm RX6 cX6_together 3 (some .int) [13, 113] 0 q.2 q.1) = true := by decide +kernel
set_option maxRecDepth 100000 in
theorem cl_X6_together {l : Launch} {R : Room} {fr lo mc : Nat} {sp : me_P} (h : me_M l yX6_together (.code yX6_together cX6_together 3 (some .int)) fr lo mc sp) (h1 : fr + 1 ≤ R.frames) (h2 : lo + 22 ≤ R.locals) : me_cal mt_nm l R 90 (mc, sp) := ⟨cX6_together, 3, (some .int), fr, lo, h, List.mem_of_getElem? (i := 745) (by rfl), h1, by omega, List.mem_of_getElem? (i := 53) (by rfl), by decide, by decide⟩
def bk_X6_part_0 : List me_I := [(2, 0, 2, [], 1, 0, 0), (2, 1, 0, [], 1, 0, 0), (2, 2, 0, [], 1, 0, 0), (29, 113, 2, [6, 748, 15], 3, 0, 746), (2, 0, 2, [], 1, 0, 0), (19, 6, 5, [], 3, 0, 280), (2, 0, 2, [], 1, 0, 0), (19, 6, 6, [], 3, 0, 281), (29, 14, 1, [1, 762, 763], 3, 0, 761), (32, 0, 0, [], 1, 0, 0)]
def cd_X6_part : List (Nat × List me_I) := [(0, bk_X6_part_0)]
theorem bq_X6_part_0 : me_bk cd_X6_part 0 = bk_X6_part_0 := rfl
set_option maxRecDepth 100000 in
theorem ck_X6_part : cd_X6_part.all (fun q => me_bck mt_nm RX6 cX6_part 3 (some .int) [14, 113] 0 q.2 q.1) = true := by decide +kernel
set_option maxRecDepth 100000 in
theorem cl_X6_part {l : Launch} {R : Room} {fr lo mc : Nat} {sp : me_P} (h : me_M l yX6_part (.code yX6_part cX6_part 3 (some .int)) fr lo mc sp) (h1 : fr + 1 ≤ R.frames) (h2 : lo + 22 ≤ R.locals) : me_cal mt_nm l R 91 (mc, sp) := ⟨cX6_part, 3, (some .int), fr, lo, h, List.mem_of_getElem? (i := 760) (by rfl), h1, by omega, List.mem_of_getElem? (i := 53) (by rfl), by decide, by decide⟩
def bk_X6_meet_0 : List me_I := [(2, 0, 2, [], 1, 0, 0), (2, 1, 0, [], 1, 0, 0), (2, 2, 0, [], 1, 0, 0), (29, 113, 2, [6, 748, 15], 3, 0, 746), (2, 0, 2, [], 1, 0, 0), (19, 6, 5, [], 3, 0, 280), (2, 0, 2, [], 1, 0, 0), (19, 6, 6, [], 3, 0, 281), (29, 15, 1, [1, 778, 779], 3, 0, 777), (33, 0, 0, [], 1, 0, 0)]
def cd_X6_meet : List (Nat × List me_I) := [(0, bk_X6_meet_0)]
theorem bq_X6_meet_0 : me_bk cd_X6_meet 0 = bk_X6_meet_0 := rfl
set_option maxRecDepth 100000 in
theorem ck_X6_meet : cd_X6_meet.all (fun q => me_bck mt_nm RX6 cX6_meet 3 (some .long) [15, 113] 0 q.2 q.1) = true := by decide +kernel
set_option maxRecDepth 100000 in
theorem cl_X6_meet {l : Launch} {R : Room} {fr lo mc : Nat} {sp : me_P} (h : me_M l yX6_meet (.code yX6_meet cX6_meet 3 (some .long)) fr lo mc sp) (h1 : fr + 1 ≤ R.frames) (h2 : lo + 22 ≤ R.locals) : me_cal mt_nm l R 92 (mc, sp) := ⟨cX6_meet, 3, (some .long), fr, lo, h, List.mem_of_getElem? (i := 776) (by rfl), h1, by omega, List.mem_of_getElem? (i := 53) (by rfl), by decide, by decide⟩
def bk_X6_addBar_0 : List me_I := [(2, 1, 0, [], 1, 0, 0), (30, 118, 1, [789], 3, 0, 788), (14, 17, 1, [], 3, 0, 0), (35, 1, 0, [391], 10, 0, 791)]
def bk_X6_addBar_17 : List me_I := [(2, 0, 2, [], 1, 0, 0), (19, 6, 1, [], 3, 0, 276), (19, 3, 0, [], 3, 0, 95), (0, 24, 0, [], 2, 0, 0), (15, 39, 2, [], 3, 0, 0), (35, 2, 0, [459], 10, 0, 792)]
def bk_X6_addBar_39 : List me_I := [(2, 0, 2, [], 1, 0, 0), (19, 6, 2, [], 3, 0, 277), (2, 0, 2, [], 1, 0, 0), (19, 6, 1, [], 3, 0, 276), (29, 1, 1, [0, 794, 795], 3, 0, 793), (2, 0, 2, [], 1, 0, 0), (19, 6, 1, [], 3, 0, 276), (2, 1, 0, [], 1, 0, 0), (29, 49, 1, [3, 342, 343], 3, 0, 798), (2, 0, 2, [], 1, 0, 0), (19, 6, 1, [], 3, 0, 276), (19, 3, 0, [], 3, 0, 95), (0, 1, 0, [], 1, 0, 0), (4, 1, 0, [], 1, 0, 0), (32, 0, 0, [], 1, 0, 0)]
def cd_X6_addBar : List (Nat × List me_I) := [(0, bk_X6_addBar_0), (17, bk_X6_addBar_17), (39, bk_X6_addBar_39)]
theorem bq_X6_addBar_0 : me_bk cd_X6_addBar 0 = bk_X6_addBar_0 := rfl
theorem bq_X6_addBar_17 : me_bk cd_X6_addBar 17 = bk_X6_addBar_17 := rfl
theorem bq_X6_addBar_39 : me_bk cd_X6_addBar 39 = bk_X6_addBar_39 := rfl
set_option maxRecDepth 100000 in
theorem ck_X6_addBar : cd_X6_addBar.all (fun q => me_bck mt_nm RX6 cX6_addBar 2 (some .int) [1, 49, 118] 2 q.2 q.1) = true := by decide +kernel
set_option maxRecDepth 100000 in
theorem cl_X6_addBar {l : Launch} {R : Room} {fr lo mc : Nat} {sp : me_P} (h : me_M l yX6_addBar (.code yX6_addBar cX6_addBar 2 (some .int)) fr lo mc sp) (h1 : fr + 1 ≤ R.frames) (h2 : lo + 21 ≤ R.locals) : me_cal mt_nm l R 93 (mc, sp) := ⟨cX6_addBar, 2, (some .int), fr, lo, h, List.mem_of_getElem? (i := 787) (by rfl), h1, by omega, List.mem_of_getElem? (i := 53) (by rfl), by decide, by decide⟩
def bk_X6_setTempo_0 : List me_I := [(2, 0, 2, [], 1, 0, 0), (2, 1, 0, [], 1, 0, 0), (29, 107, 1, [6, 538, 11], 3, 0, 536), (2, 2, 0, [], 1, 0, 0), (30, 120, 1, [807], 3, 0, 806), (14, 23, 1, [], 3, 0, 0), (35, 1, 0, [391], 11, 0, 809)]
def bk_X6_setTempo_23 : List me_I := [(2, 0, 2, [], 1, 0, 0), (19, 6, 2, [], 3, 0, 277), (2, 0, 2, [], 1, 0, 0), (19, 6, 1, [], 3, 0, 276), (29, 1, 1, [0, 794, 795], 3, 0, 793), (2, 0, 2, [], 1, 0, 0), (19, 6, 1, [], 3, 0, 276), (2, 1, 0, [], 1, 0, 0), (29, 39, 1, [3, 561, 562], 3, 0, 560), (3, 3, 0, [], 1, 0, 0), (2, 0, 2, [], 1, 0, 0), (19, 6, 1, [], 3, 0, 276), (19, 3, 3, [], 3, 0, 106), (2, 1, 0, [], 1, 0, 0), (2, 2, 0, [], 1, 0, 0), (22, 0, 0, [], 1, 0, 0), (2, 3, 0, [], 1, 0, 0), (32, 0, 0, [], 1, 0, 0)]
def cd_X6_setTempo : List (Nat × List me_I) := [(0, bk_X6_setTempo_0), (23, bk_X6_setTempo_23)]
theorem bq_X6_setTempo_0 : me_bk cd_X6_setTempo 0 = bk_X6_setTempo_0 := rfl
theorem bq_X6_setTempo_23 : me_bk cd_X6_setTempo 23 = bk_X6_setTempo_23 := rfl
set_option maxRecDepth 100000 in
theorem ck_X6_setTempo : cd_X6_setTempo.all (fun q => me_bck mt_nm RX6 cX6_setTempo 4 (some .int) [1, 39, 107, 120] 2 q.2 q.1) = true := by decide +kernel
set_option maxRecDepth 100000 in
theorem cl_X6_setTempo {l : Launch} {R : Room} {fr lo mc : Nat} {sp : me_P} (h : me_M l yX6_setTempo (.code yX6_setTempo cX6_setTempo 4 (some .int)) fr lo mc sp) (h1 : fr + 1 ≤ R.frames) (h2 : lo + 23 ≤ R.locals) : me_cal mt_nm l R 94 (mc, sp) := ⟨cX6_setTempo, 4, (some .int), fr, lo, h, List.mem_of_getElem? (i := 805) (by rfl), h1, by omega, List.mem_of_getElem? (i := 53) (by rfl), by decide, by decide⟩
def bk_X6_setStretch_0 : List me_I := [(2, 0, 2, [], 1, 0, 0), (2, 1, 0, [], 1, 0, 0), (29, 107, 1, [6, 538, 11], 3, 0, 536), (2, 0, 2, [], 1, 0, 0), (19, 6, 1, [], 3, 0, 276), (2, 1, 0, [], 1, 0, 0), (2, 2, 0, [], 1, 0, 0), (29, 35, 2, [3, 585, 586], 3, 0, 584), (14, 27, 1, [], 3, 0, 0), (35, 1, 0, [391], 10, 0, 588)]
def bk_X6_setStretch_27 : List me_I := [(2, 3, 0, [], 1, 0, 0), (30, 119, 1, [818], 3, 0, 817), (14, 45, 1, [], 3, 0, 0), (35, 1, 0, [391], 11, 0, 820)]
def bk_X6_setStretch_45 : List me_I := [(2, 0, 2, [], 1, 0, 0), (19, 6, 2, [], 3, 0, 277), (2, 0, 2, [], 1, 0, 0), (19, 6, 1, [], 3, 0, 276), (29, 1, 1, [0, 794, 795], 3, 0, 793), (2, 0, 2, [], 1, 0, 0), (19, 6, 1, [], 3, 0, 276), (2, 1, 0, [], 1, 0, 0), (2, 2, 0, [], 1, 0, 0), (29, 38, 2, [3, 520, 521], 3, 0, 589), (3, 4, 0, [], 2, 0, 0), (2, 0, 2, [], 1, 0, 0), (19, 6, 1, [], 3, 0, 276), (2, 1, 0, [], 1, 0, 0), (2, 2, 0, [], 1, 0, 0), (2, 3, 0, [], 1, 0, 0), (29, 50, 3, [3, 346, 347], 3, 0, 821), (2, 4, 0, [], 2, 0, 0), (32, 0, 0, [], 1, 0, 0)]
def cd_X6_setStretch : List (Nat × List me_I) := [(0, bk_X6_setStretch_0), (27, bk_X6_setStretch_27), (45, bk_X6_setStretch_45)]
theorem bq_X6_setStretch_0 : me_bk cd_X6_setStretch 0 = bk_X6_setStretch_0 := rfl
theorem bq_X6_setStretch_27 : me_bk cd_X6_setStretch 27 = bk_X6_setStretch_27 := rfl
theorem bq_X6_setStretch_45 : me_bk cd_X6_setStretch 45 = bk_X6_setStretch_45 := rfl
set_option maxRecDepth 100000 in
theorem ck_X6_setStretch : cd_X6_setStretch.all (fun q => me_bck mt_nm RX6 cX6_setStretch 5 (some .int) [1, 35, 38, 50, 107, 119] 2 q.2 q.1) = true := by decide +kernel
set_option maxRecDepth 100000 in
theorem cl_X6_setStretch {l : Launch} {R : Room} {fr lo mc : Nat} {sp : me_P} (h : me_M l yX6_setStretch (.code yX6_setStretch cX6_setStretch 5 (some .int)) fr lo mc sp) (h1 : fr + 1 ≤ R.frames) (h2 : lo + 24 ≤ R.locals) : me_cal mt_nm l R 95 (mc, sp) := ⟨cX6_setStretch, 5, (some .int), fr, lo, h, List.mem_of_getElem? (i := 816) (by rfl), h1, by omega, List.mem_of_getElem? (i := 53) (by rfl), by decide, by decide⟩
def bk_X6_leaveOut_0 : List me_I := [(2, 0, 2, [], 1, 0, 0), (2, 1, 0, [], 1, 0, 0), (29, 107, 1, [6, 538, 11], 3, 0, 536), (2, 2, 0, [], 1, 0, 0), (30, 111, 1, [673], 3, 0, 672), (2, 0, 2, [], 1, 0, 0), (19, 6, 2, [], 3, 0, 277), (2, 0, 2, [], 1, 0, 0), (19, 6, 1, [], 3, 0, 276), (29, 1, 1, [0, 794, 795], 3, 0, 793), (2, 0, 2, [], 1, 0, 0), (19, 6, 1, [], 3, 0, 276), (2, 1, 0, [], 1, 0, 0), (2, 2, 0, [], 1, 0, 0), (29, 36, 2, [3, 631, 632], 3, 0, 829), (3, 4, 0, [], 2, 0, 0), (2, 0, 2, [], 1, 0, 0), (19, 6, 1, [], 3, 0, 276), (2, 1, 0, [], 1, 0, 0), (2, 2, 0, [], 1, 0, 0), (2, 3, 0, [], 1, 0, 0), (29, 51, 3, [3, 363, 364], 3, 0, 830), (2, 4, 0, [], 2, 0, 0), (34, 0, 0, [], 1, 0, 0)]
def cd_X6_leaveOut : List (Nat × List me_I) := [(0, bk_X6_leaveOut_0)]
theorem bq_X6_leaveOut_0 : me_bk cd_X6_leaveOut 0 = bk_X6_leaveOut_0 := rfl
set_option maxRecDepth 100000 in
theorem ck_X6_leaveOut : cd_X6_leaveOut.all (fun q => me_bck mt_nm RX6 cX6_leaveOut 5 (some .boolean) [1, 36, 51, 107, 111] 0 q.2 q.1) = true := by decide +kernel
set_option maxRecDepth 100000 in
theorem cl_X6_leaveOut {l : Launch} {R : Room} {fr lo mc : Nat} {sp : me_P} (h : me_M l yX6_leaveOut (.code yX6_leaveOut cX6_leaveOut 5 (some .boolean)) fr lo mc sp) (h1 : fr + 1 ≤ R.frames) (h2 : lo + 24 ≤ R.locals) : me_cal mt_nm l R 96 (mc, sp) := ⟨cX6_leaveOut, 5, (some .boolean), fr, lo, h, List.mem_of_getElem? (i := 828) (by rfl), h1, by omega, List.mem_of_getElem? (i := 53) (by rfl), by decide, by decide⟩
def bk_X6_addSection_0 : List me_I := [(2, 0, 2, [], 1, 0, 0), (2, 1, 0, [], 1, 0, 0), (29, 107, 1, [6, 538, 11], 3, 0, 536), (2, 0, 2, [], 1, 0, 0), (2, 2, 0, [], 1, 0, 0), (29, 107, 1, [6, 538, 11], 3, 0, 536), (2, 2, 0, [], 1, 0, 0), (2, 1, 0, [], 1, 0, 0), (15, 26, 3, [], 3, 0, 0), (35, 1, 0, [391], 11, 0, 838)]
def bk_X6_addSection_26 : List me_I := [(2, 3, 0, [], 1, 0, 0), (0, 2, 0, [], 1, 0, 0), (15, 36, 2, [], 3, 0, 0), (2, 3, 0, [], 1, 0, 0), (0, 4, 0, [], 1, 0, 0), (15, 47, 5, [], 3, 0, 0)]
def bk_X6_addSection_36 : List me_I := [(35, 1, 0, [391], 11, 0, 839)]
def bk_X6_addSection_47 : List me_I := [(2, 0, 2, [], 1, 0, 0), (19, 6, 1, [], 3, 0, 276), (19, 3, 1, [], 3, 0, 98), (0, 4, 0, [], 1, 0, 0), (15, 69, 2, [], 3, 0, 0), (35, 2, 0, [459], 11, 0, 840)]
def bk_X6_addSection_69 : List me_I := [(2, 0, 2, [], 1, 0, 0), (19, 6, 1, [], 3, 0, 276), (2, 1, 0, [], 1, 0, 0), (2, 2, 0, [], 1, 0, 0), (29, 41, 2, [3, 842, 843], 3, 0, 841), (14, 92, 0, [], 3, 0, 0), (35, 2, 0, [459], 11, 0, 845)]
def bk_X6_addSection_92 : List me_I := [(2, 0, 2, [], 1, 0, 0), (19, 6, 2, [], 3, 0, 277), (2, 0, 2, [], 1, 0, 0), (19, 6, 1, [], 3, 0, 276), (29, 1, 1, [0, 794, 795], 3, 0, 793), (2, 0, 2, [], 1, 0, 0), (19, 6, 1, [], 3, 0, 276), (2, 1, 0, [], 1, 0, 0), (2, 2, 0, [], 1, 0, 0), (2, 3, 0, [], 1, 0, 0), (29, 53, 3, [3, 375, 376], 3, 0, 846), (32, 0, 0, [], 1, 0, 0)]
def cd_X6_addSection : List (Nat × List me_I) := [(0, bk_X6_addSection_0), (26, bk_X6_addSection_26), (36, bk_X6_addSection_36), (47, bk_X6_addSection_47), (69, bk_X6_addSection_69), (92, bk_X6_addSection_92)]
theorem bq_X6_addSection_0 : me_bk cd_X6_addSection 0 = bk_X6_addSection_0 := rfl
theorem bq_X6_addSection_26 : me_bk cd_X6_addSection 26 = bk_X6_addSection_26 := rfl
theorem bq_X6_addSection_36 : me_bk cd_X6_addSection 36 = bk_X6_addSection_36 := rfl
theorem bq_X6_addSection_47 : me_bk cd_X6_addSection 47 = bk_X6_addSection_47 := rfl
theorem bq_X6_addSection_69 : me_bk cd_X6_addSection 69 = bk_X6_addSection_69 := rfl
theorem bq_X6_addSection_92 : me_bk cd_X6_addSection 92 = bk_X6_addSection_92 := rfl
set_option maxRecDepth 100000 in
theorem ck_X6_addSection : cd_X6_addSection.all (fun q => me_bck mt_nm RX6 cX6_addSection 4 (some .int) [1, 41, 53, 107] 2 q.2 q.1) = true := by decide +kernel
set_option maxRecDepth 100000 in
theorem cl_X6_addSection {l : Launch} {R : Room} {fr lo mc : Nat} {sp : me_P} (h : me_M l yX6_addSection (.code yX6_addSection cX6_addSection 4 (some .int)) fr lo mc sp) (h1 : fr + 1 ≤ R.frames) (h2 : lo + 23 ≤ R.locals) : me_cal mt_nm l R 97 (mc, sp) := ⟨cX6_addSection, 4, (some .int), fr, lo, h, List.mem_of_getElem? (i := 837) (by rfl), h1, by omega, List.mem_of_getElem? (i := 53) (by rfl), by decide, by decide⟩
def bk_X6_removeSection_0 : List me_I := [(2, 0, 2, [], 1, 0, 0), (2, 1, 0, [], 1, 0, 0), (29, 108, 1, [6, 599, 12], 3, 0, 597), (2, 0, 2, [], 1, 0, 0), (19, 6, 2, [], 3, 0, 277), (2, 0, 2, [], 1, 0, 0), (19, 6, 1, [], 3, 0, 276), (29, 1, 1, [0, 794, 795], 3, 0, 793), (2, 0, 2, [], 1, 0, 0), (19, 6, 1, [], 3, 0, 276), (2, 1, 0, [], 1, 0, 0), (29, 54, 1, [3, 855, 856], 3, 0, 854), (2, 0, 2, [], 1, 0, 0), (19, 6, 1, [], 3, 0, 276), (19, 3, 1, [], 3, 0, 98), (32, 0, 0, [], 1, 0, 0)]
def cd_X6_removeSection : List (Nat × List me_I) := [(0, bk_X6_removeSection_0)]
theorem bq_X6_removeSection_0 : me_bk cd_X6_removeSection 0 = bk_X6_removeSection_0 := rfl
set_option maxRecDepth 100000 in
theorem ck_X6_removeSection : cd_X6_removeSection.all (fun q => me_bck mt_nm RX6 cX6_removeSection 2 (some .int) [1, 54, 108] 0 q.2 q.1) = true := by decide +kernel
set_option maxRecDepth 100000 in
theorem cl_X6_removeSection {l : Launch} {R : Room} {fr lo mc : Nat} {sp : me_P} (h : me_M l yX6_removeSection (.code yX6_removeSection cX6_removeSection 2 (some .int)) fr lo mc sp) (h1 : fr + 1 ≤ R.frames) (h2 : lo + 21 ≤ R.locals) : me_cal mt_nm l R 98 (mc, sp) := ⟨cX6_removeSection, 2, (some .int), fr, lo, h, List.mem_of_getElem? (i := 853) (by rfl), h1, by omega, List.mem_of_getElem? (i := 53) (by rfl), by decide, by decide⟩
def bk_X6_skip_0 : List me_I := [(2, 1, 0, [], 1, 0, 0), (30, 109, 1, [615], 3, 0, 614), (2, 0, 2, [], 1, 0, 0), (2, 2, 0, [], 1, 0, 0), (29, 107, 1, [6, 538, 11], 3, 0, 536), (2, 0, 2, [], 1, 0, 0), (19, 6, 2, [], 3, 0, 277), (2, 0, 2, [], 1, 0, 0), (19, 6, 1, [], 3, 0, 276), (29, 1, 1, [0, 794, 795], 3, 0, 793), (2, 0, 2, [], 1, 0, 0), (19, 6, 1, [], 3, 0, 276), (2, 1, 0, [], 1, 0, 0), (2, 2, 0, [], 1, 0, 0), (2, 3, 0, [], 1, 0, 0), (29, 52, 3, [3, 866, 867], 3, 0, 865), (2, 0, 2, [], 1, 0, 0), (19, 6, 1, [], 3, 0, 276), (19, 3, 9, [], 3, 0, 121), (2, 1, 0, [], 1, 0, 0), (21, 0, 0, [], 1, 0, 0), (30, 199, 1, [870], 3, 0, 869), (32, 0, 0, [], 1, 0, 0)]
def cd_X6_skip : List (Nat × List me_I) := [(0, bk_X6_skip_0)]
theorem bq_X6_skip_0 : me_bk cd_X6_skip 0 = bk_X6_skip_0 := rfl
set_option maxRecDepth 100000 in
theorem ck_X6_skip : cd_X6_skip.all (fun q => me_bck mt_nm RX6 cX6_skip 4 (some .int) [1, 52, 107, 109, 199] 0 q.2 q.1) = true := by decide +kernel
set_option maxRecDepth 100000 in
theorem cl_X6_skip {l : Launch} {R : Room} {fr lo mc : Nat} {sp : me_P} (h : me_M l yX6_skip (.code yX6_skip cX6_skip 4 (some .int)) fr lo mc sp) (h1 : fr + 1 ≤ R.frames) (h2 : lo + 23 ≤ R.locals) : me_cal mt_nm l R 99 (mc, sp) := ⟨cX6_skip, 4, (some .int), fr, lo, h, List.mem_of_getElem? (i := 864) (by rfl), h1, by omega, List.mem_of_getElem? (i := 53) (by rfl), by decide, by decide⟩
def bk_X6_undo_0 : List me_I := [(2, 0, 2, [], 1, 0, 0), (19, 6, 2, [], 3, 0, 277), (19, 0, 2, [], 3, 0, 179), (14, 21, 1, [], 3, 0, 0), (35, 2, 0, [459], 11, 0, 882)]
def bk_X6_undo_21 : List me_I := [(2, 0, 2, [], 1, 0, 0), (19, 6, 2, [], 3, 0, 277), (2, 0, 2, [], 1, 0, 0), (19, 6, 1, [], 3, 0, 276), (29, 2, 1, [0, 884, 885], 3, 0, 883), (2, 0, 2, [], 1, 0, 0), (19, 6, 2, [], 3, 0, 277), (19, 0, 2, [], 3, 0, 179), (32, 0, 0, [], 1, 0, 0)]
def cd_X6_undo : List (Nat × List me_I) := [(0, bk_X6_undo_0), (21, bk_X6_undo_21)]
theorem bq_X6_undo_0 : me_bk cd_X6_undo 0 = bk_X6_undo_0 := rfl
theorem bq_X6_undo_21 : me_bk cd_X6_undo 21 = bk_X6_undo_21 := rfl
set_option maxRecDepth 100000 in
theorem ck_X6_undo : cd_X6_undo.all (fun q => me_bck mt_nm RX6 cX6_undo 1 (some .int) [2] 2 q.2 q.1) = true := by decide +kernel
set_option maxRecDepth 100000 in
theorem cl_X6_undo {l : Launch} {R : Room} {fr lo mc : Nat} {sp : me_P} (h : me_M l yX6_undo (.code yX6_undo cX6_undo 1 (some .int)) fr lo mc sp) (h1 : fr + 1 ≤ R.frames) (h2 : lo + 20 ≤ R.locals) : me_cal mt_nm l R 100 (mc, sp) := ⟨cX6_undo, 1, (some .int), fr, lo, h, List.mem_of_getElem? (i := 881) (by rfl), h1, by omega, List.mem_of_getElem? (i := 53) (by rfl), by decide, by decide⟩
def bk_X6_percentage_0 : List me_I := [(2, 1, 0, [], 1, 0, 0), (30, 109, 1, [615], 3, 0, 614), (2, 2, 1, [], 1, 0, 0), (30, 112, 1, [691], 3, 0, 690), (2, 0, 2, [], 1, 0, 0), (19, 6, 7, [], 3, 0, 282), (2, 0, 2, [], 1, 0, 0), (19, 6, 1, [], 3, 0, 276), (29, 69, 1, [5, 895, 896], 3, 0, 894), (0, 50, 0, [], 2, 0, 0), (3, 4, 0, [], 2, 0, 0)]
def bk_X6_percentage_23 : List me_I := [(2, 4, 0, [], 2, 0, 0), (0, 200, 0, [], 3, 0, 0), (15, 63, 4, [], 3, 0, 0), (2, 0, 2, [], 1, 0, 0), (19, 6, 7, [], 3, 0, 282), (2, 0, 2, [], 1, 0, 0), (19, 6, 1, [], 3, 0, 276), (19, 3, 9, [], 3, 0, 121), (2, 1, 0, [], 1, 0, 0), (21, 0, 0, [], 1, 0, 0), (2, 4, 0, [], 2, 0, 0), (29, 71, 2, [5, 906, 907], 3, 0, 905), (2, 2, 1, [], 1, 0, 0), (9, 0, 0, [], 1, 0, 0), (14, 57, 4, [], 3, 0, 0), (2, 4, 0, [], 2, 0, 0), (32, 0, 0, [], 1, 0, 0)]
def bk_X6_percentage_57 : List me_I := [(13, 4, 1, [], 3, 0, 0), (16, 23, 0, [], 3, 0, 0)]
def bk_X6_percentage_63 : List me_I := [(0, 9, 1, [], 2, 0, 0), (32, 0, 0, [], 1, 0, 0)]
def cd_X6_percentage : List (Nat × List me_I) := [(0, bk_X6_percentage_0), (23, bk_X6_percentage_23), (57, bk_X6_percentage_57), (63, bk_X6_percentage_63)]
theorem bq_X6_percentage_0 : me_bk cd_X6_percentage 0 = bk_X6_percentage_0 := rfl
theorem bq_X6_percentage_23 : me_bk cd_X6_percentage 23 = bk_X6_percentage_23 := rfl
theorem bq_X6_percentage_57 : me_bk cd_X6_percentage 57 = bk_X6_percentage_57 := rfl
theorem bq_X6_percentage_63 : me_bk cd_X6_percentage 63 = bk_X6_percentage_63 := rfl
set_option maxRecDepth 100000 in
theorem ck_X6_percentage : cd_X6_percentage.all (fun q => me_bck mt_nm RX6 cX6_percentage 5 (some .int) [69, 71, 109, 112] 0 q.2 q.1) = true := by decide +kernel
set_option maxRecDepth 100000 in
theorem cl_X6_percentage {l : Launch} {R : Room} {fr lo mc : Nat} {sp : me_P} (h : me_M l yX6_percentage (.code yX6_percentage cX6_percentage 5 (some .int)) fr lo mc sp) (h1 : fr + 1 ≤ R.frames) (h2 : lo + 24 ≤ R.locals) : me_cal mt_nm l R 101 (mc, sp) := ⟨cX6_percentage, 5, (some .int), fr, lo, h, List.mem_of_getElem? (i := 893) (by rfl), h1, by omega, List.mem_of_getElem? (i := 53) (by rfl), by decide, by decide⟩
def bk_X6_longest_0 : List me_I := [(2, 1, 0, [], 1, 0, 0), (30, 109, 1, [615], 3, 0, 614), (2, 0, 2, [], 1, 0, 0), (19, 6, 7, [], 3, 0, 282), (2, 0, 2, [], 1, 0, 0), (19, 6, 1, [], 3, 0, 276), (29, 69, 1, [5, 895, 896], 3, 0, 894), (2, 0, 2, [], 1, 0, 0), (19, 6, 7, [], 3, 0, 282), (2, 0, 2, [], 1, 0, 0), (19, 6, 1, [], 3, 0, 276), (19, 3, 9, [], 3, 0, 121), (2, 1, 0, [], 1, 0, 0), (21, 0, 0, [], 1, 0, 0), (29, 72, 1, [5, 922, 923], 3, 0, 921), (32, 0, 0, [], 1, 0, 0)]
def cd_X6_longest : List (Nat × List me_I) := [(0, bk_X6_longest_0)]
theorem bq_X6_longest_0 : me_bk cd_X6_longest 0 = bk_X6_longest_0 := rfl
set_option maxRecDepth 100000 in
theorem ck_X6_longest : cd_X6_longest.all (fun q => me_bck mt_nm RX6 cX6_longest 2 (some .int) [69, 72, 109] 0 q.2 q.1) = true := by decide +kernel
set_option maxRecDepth 100000 in
theorem cl_X6_longest {l : Launch} {R : Room} {fr lo mc : Nat} {sp : me_P} (h : me_M l yX6_longest (.code yX6_longest cX6_longest 2 (some .int)) fr lo mc sp) (h1 : fr + 1 ≤ R.frames) (h2 : lo + 21 ≤ R.locals) : me_cal mt_nm l R 102 (mc, sp) := ⟨cX6_longest, 2, (some .int), fr, lo, h, List.mem_of_getElem? (i := 920) (by rfl), h1, by omega, List.mem_of_getElem? (i := 53) (by rfl), by decide, by decide⟩
def bk_X6_runScript_0 : List me_I := [(2, 1, 0, [], 1, 0, 0), (0, 1, 0, [], 1, 0, 0), (15, 10, 2, [], 3, 0, 0), (2, 1, 0, [], 1, 0, 0), (0, 3, 0, [], 1, 0, 0), (15, 21, 5, [], 3, 0, 0)]
def bk_X6_runScript_10 : List me_I := [(35, 1, 0, [391], 11, 0, 932)]
def bk_X6_runScript_21 : List me_I := [(2, 2, 1, [], 1, 0, 0), (1, 0, 0, [], 1, 0, 0), (9, 0, 0, [], 1, 0, 0), (14, 37, 2, [], 3, 0, 0), (2, 2, 1, [], 1, 0, 0), (2, 1, 0, [], 1, 0, 0), (30, 18, 2, [934], 3, 0, 933), (1, 0, 0, [], 1, 0, 0), (9, 0, 0, [], 1, 0, 0), (14, 48, 0, [], 3, 0, 0)]
def bk_X6_runScript_37 : List me_I := [(35, 1, 0, [391], 11, 0, 937)]
def bk_X6_runScript_48 : List me_I := [(2, 0, 2, [], 1, 0, 0), (19, 6, 8, [], 3, 0, 283), (2, 0, 2, [], 1, 0, 0), (19, 6, 1, [], 3, 0, 276), (29, 19, 1, [2, 939, 940], 3, 0, 938), (0, 0, 0, [], 1, 0, 0), (3, 4, 0, [], 2, 0, 0)]
def bk_X6_runScript_62 : List me_I := [(2, 4, 0, [], 2, 0, 0), (2, 1, 0, [], 1, 0, 0), (15, 97, 3, [], 3, 0, 0), (2, 0, 2, [], 1, 0, 0), (19, 6, 8, [], 3, 0, 283), (2, 2, 1, [], 1, 0, 0), (2, 1, 0, [], 1, 0, 0), (0, 1, 0, [], 1, 0, 0), (4, 1, 0, [], 1, 0, 0), (2, 4, 0, [], 2, 0, 0), (4, 1, 0, [], 1, 0, 0), (30, 18, 2, [934], 3, 0, 933), (29, 20, 1, [2, 944, 945], 3, 0, 943), (14, 91, 1, [], 3, 0, 0), (2, 4, 0, [], 2, 0, 0), (32, 0, 0, [], 1, 0, 0)]
def bk_X6_runScript_91 : List me_I := [(13, 4, 1, [], 3, 0, 0), (16, 62, 0, [], 3, 0, 0)]
def bk_X6_runScript_97 : List me_I := [(0, 9, 1, [], 2, 0, 0), (32, 0, 0, [], 1, 0, 0)]
def cd_X6_runScript : List (Nat × List me_I) := [(0, bk_X6_runScript_0), (10, bk_X6_runScript_10), (21, bk_X6_runScript_21), (37, bk_X6_runScript_37), (48, bk_X6_runScript_48), (62, bk_X6_runScript_62), (91, bk_X6_runScript_91), (97, bk_X6_runScript_97)]
theorem bq_X6_runScript_0 : me_bk cd_X6_runScript 0 = bk_X6_runScript_0 := rfl
theorem bq_X6_runScript_10 : me_bk cd_X6_runScript 10 = bk_X6_runScript_10 := rfl
theorem bq_X6_runScript_21 : me_bk cd_X6_runScript 21 = bk_X6_runScript_21 := rfl
theorem bq_X6_runScript_37 : me_bk cd_X6_runScript 37 = bk_X6_runScript_37 := rfl
theorem bq_X6_runScript_48 : me_bk cd_X6_runScript 48 = bk_X6_runScript_48 := rfl
theorem bq_X6_runScript_62 : me_bk cd_X6_runScript 62 = bk_X6_runScript_62 := rfl
theorem bq_X6_runScript_91 : me_bk cd_X6_runScript 91 = bk_X6_runScript_91 := rfl
theorem bq_X6_runScript_97 : me_bk cd_X6_runScript 97 = bk_X6_runScript_97 := rfl
set_option maxRecDepth 100000 in
theorem ck_X6_runScript : cd_X6_runScript.all (fun q => me_bck mt_nm RX6 cX6_runScript 5 (some .int) [18, 19, 20] 2 q.2 q.1) = true := by decide +kernel
set_option maxRecDepth 100000 in
theorem cl_X6_runScript {l : Launch} {R : Room} {fr lo mc : Nat} {sp : me_P} (h : me_M l yX6_runScript (.code yX6_runScript cX6_runScript 5 (some .int)) fr lo mc sp) (h1 : fr + 1 ≤ R.frames) (h2 : lo + 24 ≤ R.locals) : me_cal mt_nm l R 103 (mc, sp) := ⟨cX6_runScript, 5, (some .int), fr, lo, h, List.mem_of_getElem? (i := 931) (by rfl), h1, by omega, List.mem_of_getElem? (i := 53) (by rfl), by decide, by decide⟩
def bk_X6_simulate_0 : List me_I := [(2, 3, 0, [], 1, 0, 0), (0, 1, 0, [], 1, 0, 0), (15, 11, 2, [], 3, 0, 0), (2, 3, 0, [], 1, 0, 0), (0, 50, 0, [], 2, 0, 0), (15, 22, 5, [], 3, 0, 0)]
def bk_X6_simulate_11 : List me_I := [(35, 1, 0, [391], 11, 0, 1006)]
def bk_X6_simulate_22 : List me_I := [(2, 0, 2, [], 1, 0, 0), (19, 6, 7, [], 3, 0, 282), (2, 0, 2, [], 1, 0, 0), (19, 6, 1, [], 3, 0, 276), (29, 69, 1, [5, 895, 896], 3, 0, 894), (2, 1, 1, [], 1, 0, 0), (3, 4, 1, [], 2, 0, 0), (0, 0, 0, [], 1, 0, 0), (3, 6, 0, [], 2, 0, 0), (0, 0, 0, [], 1, 0, 0), (3, 7, 0, [], 2, 0, 0)]
def bk_X6_simulate_42 : List me_I := [(2, 7, 0, [], 2, 0, 0), (2, 3, 0, [], 1, 0, 0), (15, 72, 3, [], 3, 0, 0), (2, 0, 2, [], 1, 0, 0), (2, 4, 1, [], 2, 0, 0), (29, 114, 1, [6, 1009, 27], 3, 0, 1007), (3, 4, 1, [], 2, 0, 0), (2, 0, 2, [], 1, 0, 0), (29, 115, 0, [6, 1016, 28], 3, 0, 1014), (14, 66, 0, [], 3, 0, 0), (13, 6, 1, [], 3, 0, 0)]
def bk_X6_simulate_66 : List me_I := [(13, 7, 1, [], 3, 0, 0), (16, 42, 0, [], 3, 0, 0)]
def bk_X6_simulate_72 : List me_I := [(2, 6, 0, [], 2, 0, 0), (32, 0, 0, [], 1, 0, 0)]
def cd_X6_simulate : List (Nat × List me_I) := [(0, bk_X6_simulate_0), (11, bk_X6_simulate_11), (22, bk_X6_simulate_22), (42, bk_X6_simulate_42), (66, bk_X6_simulate_66), (72, bk_X6_simulate_72)]
theorem bq_X6_simulate_0 : me_bk cd_X6_simulate 0 = bk_X6_simulate_0 := rfl
theorem bq_X6_simulate_11 : me_bk cd_X6_simulate 11 = bk_X6_simulate_11 := rfl
theorem bq_X6_simulate_22 : me_bk cd_X6_simulate 22 = bk_X6_simulate_22 := rfl
theorem bq_X6_simulate_42 : me_bk cd_X6_simulate 42 = bk_X6_simulate_42 := rfl
theorem bq_X6_simulate_66 : me_bk cd_X6_simulate 66 = bk_X6_simulate_66 := rfl
theorem bq_X6_simulate_72 : me_bk cd_X6_simulate 72 = bk_X6_simulate_72 := rfl
set_option maxRecDepth 100000 in
theorem ck_X6_simulate : cd_X6_simulate.all (fun q => me_bck mt_nm RX6 cX6_simulate 8 (some .int) [69, 114, 115] 2 q.2 q.1) = true := by decide +kernel
set_option maxRecDepth 100000 in
theorem cl_X6_simulate {l : Launch} {R : Room} {fr lo mc : Nat} {sp : me_P} (h : me_M l yX6_simulate (.code yX6_simulate cX6_simulate 8 (some .int)) fr lo mc sp) (h1 : fr + 1 ≤ R.frames) (h2 : lo + 27 ≤ R.locals) : me_cal mt_nm l R 104 (mc, sp) := ⟨cX6_simulate, 8, (some .int), fr, lo, h, List.mem_of_getElem? (i := 1005) (by rfl), h1, by omega, List.mem_of_getElem? (i := 53) (by rfl), by decide, by decide⟩
def bk_X6_save_0 : List me_I := [(2, 1, 0, [], 1, 0, 0), (30, 110, 1, [1026], 3, 0, 1025), (2, 0, 2, [], 1, 0, 0), (19, 6, 3, [], 3, 0, 278), (2, 1, 0, [], 1, 0, 0), (27, 0, 0, [], 1, 0, 0), (2, 0, 2, [], 1, 0, 0), (19, 6, 1, [], 3, 0, 276), (29, 31, 1, [3, 488, 489], 3, 0, 487), (2, 0, 2, [], 1, 0, 0), (19, 6, 4, [], 3, 0, 279), (2, 1, 0, [], 1, 0, 0), (0, 1, 0, [], 1, 0, 0), (26, 0, 0, [], 1, 0, 0), (2, 0, 2, [], 1, 0, 0), (19, 6, 1, [], 3, 0, 276), (19, 3, 0, [], 3, 0, 95), (32, 0, 0, [], 1, 0, 0)]
def cd_X6_save : List (Nat × List me_I) := [(0, bk_X6_save_0)]
theorem bq_X6_save_0 : me_bk cd_X6_save 0 = bk_X6_save_0 := rfl
set_option maxRecDepth 100000 in
theorem ck_X6_save : cd_X6_save.all (fun q => me_bck mt_nm RX6 cX6_save 2 (some .int) [31, 110] 0 q.2 q.1) = true := by decide +kernel
set_option maxRecDepth 100000 in
theorem cl_X6_save {l : Launch} {R : Room} {fr lo mc : Nat} {sp : me_P} (h : me_M l yX6_save (.code yX6_save cX6_save 2 (some .int)) fr lo mc sp) (h1 : fr + 1 ≤ R.frames) (h2 : lo + 21 ≤ R.locals) : me_cal mt_nm l R 105 (mc, sp) := ⟨cX6_save, 2, (some .int), fr, lo, h, List.mem_of_getElem? (i := 1024) (by rfl), h1, by omega, List.mem_of_getElem? (i := 53) (by rfl), by decide, by decide⟩
def bk_X6_restore_0 : List me_I := [(2, 1, 0, [], 1, 0, 0), (30, 110, 1, [1026], 3, 0, 1025), (2, 0, 2, [], 1, 0, 0), (19, 6, 4, [], 3, 0, 279), (2, 1, 0, [], 1, 0, 0), (25, 0, 0, [], 1, 0, 0), (14, 24, 1, [], 3, 0, 0), (35, 2, 0, [459], 11, 0, 1036)]
def bk_X6_restore_24 : List me_I := [(2, 0, 2, [], 1, 0, 0), (19, 6, 1, [], 3, 0, 276), (2, 0, 2, [], 1, 0, 0), (19, 6, 3, [], 3, 0, 278), (2, 1, 0, [], 1, 0, 0), (27, 0, 0, [], 1, 0, 0), (29, 31, 1, [3, 488, 489], 3, 0, 487), (2, 0, 2, [], 1, 0, 0), (19, 6, 2, [], 3, 0, 277), (29, 3, 0, [0, 501, 502], 3, 0, 500), (2, 0, 2, [], 1, 0, 0), (19, 6, 1, [], 3, 0, 276), (19, 3, 0, [], 3, 0, 95), (32, 0, 0, [], 1, 0, 0)]
def cd_X6_restore : List (Nat × List me_I) := [(0, bk_X6_restore_0), (24, bk_X6_restore_24)]
theorem bq_X6_restore_0 : me_bk cd_X6_restore 0 = bk_X6_restore_0 := rfl
theorem bq_X6_restore_24 : me_bk cd_X6_restore 24 = bk_X6_restore_24 := rfl
set_option maxRecDepth 100000 in
theorem ck_X6_restore : cd_X6_restore.all (fun q => me_bck mt_nm RX6 cX6_restore 2 (some .int) [3, 31, 110] 2 q.2 q.1) = true := by decide +kernel
set_option maxRecDepth 100000 in
theorem cl_X6_restore {l : Launch} {R : Room} {fr lo mc : Nat} {sp : me_P} (h : me_M l yX6_restore (.code yX6_restore cX6_restore 2 (some .int)) fr lo mc sp) (h1 : fr + 1 ≤ R.frames) (h2 : lo + 21 ≤ R.locals) : me_cal mt_nm l R 106 (mc, sp) := ⟨cX6_restore, 2, (some .int), fr, lo, h, List.mem_of_getElem? (i := 1035) (by rfl), h1, by omega, List.mem_of_getElem? (i := 53) (by rfl), by decide, by decide⟩
def bk_X6_checkBar_0 : List me_I := [(2, 0, 2, [], 1, 0, 0), (19, 6, 1, [], 3, 0, 276), (2, 1, 0, [], 1, 0, 0), (29, 33, 1, [3, 541, 542], 3, 0, 540), (14, 22, 1, [], 3, 0, 0), (35, 0, 0, [544], 11, 0, 553)]
def bk_X6_checkBar_22 : List me_I := [(31, 0, 0, [], 1, 0, 0)]
def cd_X6_checkBar : List (Nat × List me_I) := [(0, bk_X6_checkBar_0), (22, bk_X6_checkBar_22)]
theorem bq_X6_checkBar_0 : me_bk cd_X6_checkBar 0 = bk_X6_checkBar_0 := rfl
theorem bq_X6_checkBar_22 : me_bk cd_X6_checkBar 22 = bk_X6_checkBar_22 := rfl
set_option maxRecDepth 100000 in
theorem ck_X6_checkBar : cd_X6_checkBar.all (fun q => me_bck mt_nm RX6 cX6_checkBar 2 none [33] 2 q.2 q.1) = true := by decide +kernel
set_option maxRecDepth 100000 in
theorem cl_X6_checkBar {l : Launch} {R : Room} {fr lo mc : Nat} {sp : me_P} (h : me_M l yX6_checkBar (.code yX6_checkBar cX6_checkBar 2 none) fr lo mc sp) (h1 : fr + 1 ≤ R.frames) (h2 : lo + 21 ≤ R.locals) : me_cal mt_nm l R 107 (mc, sp) := ⟨cX6_checkBar, 2, none, fr, lo, h, List.mem_of_getElem? (i := 539) (by rfl), h1, by omega, List.mem_of_getElem? (i := 53) (by rfl), by decide, by decide⟩
def bk_X6_checkSection_0 : List me_I := [(2, 0, 2, [], 1, 0, 0), (19, 6, 1, [], 3, 0, 276), (2, 1, 0, [], 1, 0, 0), (29, 34, 1, [3, 602, 603], 3, 0, 601), (14, 22, 1, [], 3, 0, 0), (35, 0, 0, [544], 11, 0, 605)]
def bk_X6_checkSection_22 : List me_I := [(31, 0, 0, [], 1, 0, 0)]
def cd_X6_checkSection : List (Nat × List me_I) := [(0, bk_X6_checkSection_0), (22, bk_X6_checkSection_22)]
theorem bq_X6_checkSection_0 : me_bk cd_X6_checkSection 0 = bk_X6_checkSection_0 := rfl
theorem bq_X6_checkSection_22 : me_bk cd_X6_checkSection 22 = bk_X6_checkSection_22 := rfl
set_option maxRecDepth 100000 in
theorem ck_X6_checkSection : cd_X6_checkSection.all (fun q => me_bck mt_nm RX6 cX6_checkSection 2 none [34] 2 q.2 q.1) = true := by decide +kernel
set_option maxRecDepth 100000 in
theorem cl_X6_checkSection {l : Launch} {R : Room} {fr lo mc : Nat} {sp : me_P} (h : me_M l yX6_checkSection (.code yX6_checkSection cX6_checkSection 2 none) fr lo mc sp) (h1 : fr + 1 ≤ R.frames) (h2 : lo + 21 ≤ R.locals) : me_cal mt_nm l R 108 (mc, sp) := ⟨cX6_checkSection, 2, none, fr, lo, h, List.mem_of_getElem? (i := 600) (by rfl), h1, by omega, List.mem_of_getElem? (i := 53) (by rfl), by decide, by decide⟩
def bk_X6_checkPlayer_0 : List me_I := [(2, 0, 0, [], 1, 0, 0), (30, 116, 1, [618], 3, 0, 617), (14, 18, 1, [], 3, 0, 0), (35, 0, 0, [544], 11, 0, 620)]
def bk_X6_checkPlayer_18 : List me_I := [(31, 0, 0, [], 1, 0, 0)]
def cd_X6_checkPlayer : List (Nat × List me_I) := [(0, bk_X6_checkPlayer_0), (18, bk_X6_checkPlayer_18)]
theorem bq_X6_checkPlayer_0 : me_bk cd_X6_checkPlayer 0 = bk_X6_checkPlayer_0 := rfl
theorem bq_X6_checkPlayer_18 : me_bk cd_X6_checkPlayer 18 = bk_X6_checkPlayer_18 := rfl
set_option maxRecDepth 100000 in
theorem ck_X6_checkPlayer : cd_X6_checkPlayer.all (fun q => me_bck mt_nm RX6 cX6_checkPlayer 1 none [116] 2 q.2 q.1) = true := by decide +kernel
set_option maxRecDepth 100000 in
theorem cl_X6_checkPlayer {l : Launch} {R : Room} {fr lo mc : Nat} {sp : me_P} (h : me_M l yX6_checkPlayer (.code yX6_checkPlayer cX6_checkPlayer 1 none) fr lo mc sp) (h1 : fr + 1 ≤ R.frames) (h2 : lo + 20 ≤ R.locals) : me_cal mt_nm l R 109 (mc, sp) := ⟨cX6_checkPlayer, 1, none, fr, lo, h, List.mem_of_getElem? (i := 616) (by rfl), h1, by omega, List.mem_of_getElem? (i := 53) (by rfl), by decide, by decide⟩
def bk_X6_checkSlot_0 : List me_I := [(2, 0, 0, [], 1, 0, 0), (14, 9, 2, [], 3, 0, 0), (2, 0, 0, [], 1, 0, 0), (0, 2, 0, [], 1, 0, 0), (15, 20, 2, [], 3, 0, 0)]
def bk_X6_checkSlot_9 : List me_I := [(35, 0, 0, [544], 11, 0, 1028)]
def bk_X6_checkSlot_20 : List me_I := [(31, 0, 0, [], 1, 0, 0)]
def cd_X6_checkSlot : List (Nat × List me_I) := [(0, bk_X6_checkSlot_0), (9, bk_X6_checkSlot_9), (20, bk_X6_checkSlot_20)]
theorem bq_X6_checkSlot_0 : me_bk cd_X6_checkSlot 0 = bk_X6_checkSlot_0 := rfl
theorem bq_X6_checkSlot_9 : me_bk cd_X6_checkSlot 9 = bk_X6_checkSlot_9 := rfl
theorem bq_X6_checkSlot_20 : me_bk cd_X6_checkSlot 20 = bk_X6_checkSlot_20 := rfl
set_option maxRecDepth 100000 in
theorem ck_X6_checkSlot : cd_X6_checkSlot.all (fun q => me_bck mt_nm RX6 cX6_checkSlot 1 none [] 2 q.2 q.1) = true := by decide +kernel
set_option maxRecDepth 100000 in
theorem cl_X6_checkSlot {l : Launch} {R : Room} {fr lo mc : Nat} {sp : me_P} (h : me_M l yX6_checkSlot (.code yX6_checkSlot cX6_checkSlot 1 none) fr lo mc sp) (h1 : fr + 1 ≤ R.frames) (h2 : lo + 20 ≤ R.locals) : me_cal mt_nm l R 110 (mc, sp) := ⟨cX6_checkSlot, 1, none, fr, lo, h, List.mem_of_getElem? (i := 1027) (by rfl), h1, by omega, List.mem_of_getElem? (i := 53) (by rfl), by decide, by decide⟩
def bk_X6_checkPass_0 : List me_I := [(2, 0, 0, [], 1, 0, 0), (30, 117, 1, [676], 3, 0, 675), (14, 18, 1, [], 3, 0, 0), (35, 1, 0, [391], 11, 0, 678)]
def bk_X6_checkPass_18 : List me_I := [(31, 0, 0, [], 1, 0, 0)]
def cd_X6_checkPass : List (Nat × List me_I) := [(0, bk_X6_checkPass_0), (18, bk_X6_checkPass_18)]
theorem bq_X6_checkPass_0 : me_bk cd_X6_checkPass 0 = bk_X6_checkPass_0 := rfl
theorem bq_X6_checkPass_18 : me_bk cd_X6_checkPass 18 = bk_X6_checkPass_18 := rfl
set_option maxRecDepth 100000 in
theorem ck_X6_checkPass : cd_X6_checkPass.all (fun q => me_bck mt_nm RX6 cX6_checkPass 1 none [117] 2 q.2 q.1) = true := by decide +kernel
set_option maxRecDepth 100000 in
theorem cl_X6_checkPass {l : Launch} {R : Room} {fr lo mc : Nat} {sp : me_P} (h : me_M l yX6_checkPass (.code yX6_checkPass cX6_checkPass 1 none) fr lo mc sp) (h1 : fr + 1 ≤ R.frames) (h2 : lo + 20 ≤ R.locals) : me_cal mt_nm l R 111 (mc, sp) := ⟨cX6_checkPass, 1, none, fr, lo, h, List.mem_of_getElem? (i := 674) (by rfl), h1, by omega, List.mem_of_getElem? (i := 53) (by rfl), by decide, by decide⟩
def bk_X6_checkMoment_0 : List me_I := [(2, 0, 1, [], 1, 0, 0), (1, 0, 0, [], 1, 0, 0), (9, 0, 0, [], 1, 0, 0), (14, 17, 3, [], 3, 0, 0), (35, 1, 0, [391], 11, 0, 693)]
def bk_X6_checkMoment_17 : List me_I := [(31, 0, 0, [], 1, 0, 0)]
def cd_X6_checkMoment : List (Nat × List me_I) := [(0, bk_X6_checkMoment_0), (17, bk_X6_checkMoment_17)]
theorem bq_X6_checkMoment_0 : me_bk cd_X6_checkMoment 0 = bk_X6_checkMoment_0 := rfl
theorem bq_X6_checkMoment_17 : me_bk cd_X6_checkMoment 17 = bk_X6_checkMoment_17 := rfl
set_option maxRecDepth 100000 in
theorem ck_X6_checkMoment : cd_X6_checkMoment.all (fun q => me_bck mt_nm RX6 cX6_checkMoment 2 none [] 2 q.2 q.1) = true := by decide +kernel
set_option maxRecDepth 100000 in
theorem cl_X6_checkMoment {l : Launch} {R : Room} {fr lo mc : Nat} {sp : me_P} (h : me_M l yX6_checkMoment (.code yX6_checkMoment cX6_checkMoment 2 none) fr lo mc sp) (h1 : fr + 1 ≤ R.frames) (h2 : lo + 21 ≤ R.locals) : me_cal mt_nm l R 112 (mc, sp) := ⟨cX6_checkMoment, 2, none, fr, lo, h, List.mem_of_getElem? (i := 692) (by rfl), h1, by omega, List.mem_of_getElem? (i := 53) (by rfl), by decide, by decide⟩
def bk_X6_fillRows_0 : List me_I := [(2, 1, 0, [], 1, 0, 0), (30, 109, 1, [615], 3, 0, 614), (2, 2, 0, [], 1, 0, 0), (30, 109, 1, [615], 3, 0, 614), (2, 0, 2, [], 1, 0, 0), (19, 6, 5, [], 3, 0, 280), (2, 0, 2, [], 1, 0, 0), (19, 6, 1, [], 3, 0, 276), (2, 1, 0, [], 1, 0, 0), (29, 5, 2, [1, 622, 623], 3, 0, 621), (2, 0, 2, [], 1, 0, 0), (19, 6, 6, [], 3, 0, 281), (2, 0, 2, [], 1, 0, 0), (19, 6, 1, [], 3, 0, 276), (2, 2, 0, [], 1, 0, 0), (29, 5, 2, [1, 622, 623], 3, 0, 621), (31, 0, 0, [], 1, 0, 0)]
def cd_X6_fillRows : List (Nat × List me_I) := [(0, bk_X6_fillRows_0)]
theorem bq_X6_fillRows_0 : me_bk cd_X6_fillRows 0 = bk_X6_fillRows_0 := rfl
set_option maxRecDepth 100000 in
theorem ck_X6_fillRows : cd_X6_fillRows.all (fun q => me_bck mt_nm RX6 cX6_fillRows 3 none [5, 109] 0 q.2 q.1) = true := by decide +kernel
set_option maxRecDepth 100000 in
theorem cl_X6_fillRows {l : Launch} {R : Room} {fr lo mc : Nat} {sp : me_P} (h : me_M l yX6_fillRows (.code yX6_fillRows cX6_fillRows 3 none) fr lo mc sp) (h1 : fr + 1 ≤ R.frames) (h2 : lo + 22 ≤ R.locals) : me_cal mt_nm l R 113 (mc, sp) := ⟨cX6_fillRows, 3, none, fr, lo, h, List.mem_of_getElem? (i := 749) (by rfl), h1, by omega, List.mem_of_getElem? (i := 53) (by rfl), by decide, by decide⟩
def bk_X6_rehearse_0 : List me_I := [(2, 0, 2, [], 1, 0, 0), (19, 6, 1, [], 3, 0, 276), (19, 3, 9, [], 3, 0, 121), (2, 0, 2, [], 1, 0, 0), (19, 6, 9, [], 3, 0, 284), (30, 122, 2, [492], 3, 0, 1011), (2, 1, 1, [], 1, 0, 0), (3, 3, 1, [], 1, 0, 0), (0, 0, 0, [], 1, 0, 0), (3, 5, 0, [], 2, 0, 0)]
def bk_X6_rehearse_19 : List me_I := [(2, 5, 0, [], 2, 0, 0), (2, 0, 2, [], 1, 0, 0), (19, 6, 1, [], 3, 0, 276), (19, 3, 0, [], 3, 0, 95), (15, 81, 3, [], 3, 0, 0), (2, 3, 1, [], 1, 0, 0), (1, 6364136223846793005, 0, [], 3, 0, 1012), (5, 2, 0, [], 1, 0, 0), (1, 1442695040888963407, 0, [], 3, 0, 1013), (5, 0, 0, [], 1, 0, 0), (3, 3, 1, [], 1, 0, 0), (2, 3, 1, [], 1, 0, 0), (0, 33, 0, [], 2, 0, 0), (6, 1, 0, [], 1, 0, 0), (8, 0, 0, [], 1, 0, 0), (3, 6, 0, [], 2, 0, 0), (2, 6, 0, [], 2, 0, 0), (0, 8, 0, [], 2, 0, 0), (4, 9, 0, [], 1, 0, 0), (14, 75, 1, [], 3, 0, 0), (2, 0, 2, [], 1, 0, 0), (19, 6, 9, [], 3, 0, 284), (2, 6, 0, [], 2, 0, 0), (0, 8, 0, [], 2, 0, 0), (4, 8, 0, [], 1, 0, 0), (0, 3, 0, [], 1, 0, 0), (4, 9, 0, [], 1, 0, 0), (11, 0, 0, [], 1, 0, 0), (21, 0, 0, [], 1, 0, 0), (0, 1, 0, [], 1, 0, 0), (2, 5, 0, [], 2, 0, 0), (4, 6, 0, [], 1, 0, 0), (4, 5, 0, [], 1, 0, 0), (22, 0, 0, [], 1, 0, 0)]
def bk_X6_rehearse_75 : List me_I := [(13, 5, 1, [], 3, 0, 0), (16, 19, 0, [], 3, 0, 0)]
def bk_X6_rehearse_81 : List me_I := [(2, 3, 1, [], 1, 0, 0), (33, 0, 0, [], 1, 0, 0)]
def cd_X6_rehearse : List (Nat × List me_I) := [(0, bk_X6_rehearse_0), (19, bk_X6_rehearse_19), (75, bk_X6_rehearse_75), (81, bk_X6_rehearse_81)]
theorem bq_X6_rehearse_0 : me_bk cd_X6_rehearse 0 = bk_X6_rehearse_0 := rfl
theorem bq_X6_rehearse_19 : me_bk cd_X6_rehearse 19 = bk_X6_rehearse_19 := rfl
theorem bq_X6_rehearse_75 : me_bk cd_X6_rehearse 75 = bk_X6_rehearse_75 := rfl
theorem bq_X6_rehearse_81 : me_bk cd_X6_rehearse 81 = bk_X6_rehearse_81 := rfl
set_option maxRecDepth 100000 in
theorem ck_X6_rehearse : cd_X6_rehearse.all (fun q => me_bck mt_nm RX6 cX6_rehearse 7 (some .long) [122] 0 q.2 q.1) = true := by decide +kernel
set_option maxRecDepth 100000 in
theorem cl_X6_rehearse {l : Launch} {R : Room} {fr lo mc : Nat} {sp : me_P} (h : me_M l yX6_rehearse (.code yX6_rehearse cX6_rehearse 7 (some .long)) fr lo mc sp) (h1 : fr + 1 ≤ R.frames) (h2 : lo + 26 ≤ R.locals) : me_cal mt_nm l R 114 (mc, sp) := ⟨cX6_rehearse, 7, (some .long), fr, lo, h, List.mem_of_getElem? (i := 1010) (by rfl), h1, by omega, List.mem_of_getElem? (i := 53) (by rfl), by decide, by decide⟩
def bk_X6_endTogether_0 : List me_I := [(2, 0, 2, [], 1, 0, 0), (19, 6, 7, [], 3, 0, 282), (2, 0, 2, [], 1, 0, 0), (19, 6, 9, [], 3, 0, 284), (0, 0, 0, [], 1, 0, 0), (21, 0, 0, [], 1, 0, 0), (0, 100, 0, [], 2, 0, 0), (29, 71, 2, [5, 906, 907], 3, 0, 905), (3, 1, 1, [], 1, 0, 0), (0, 1, 0, [], 1, 0, 0), (3, 3, 0, [], 1, 0, 0)]
def bk_X6_endTogether_18 : List me_I := [(2, 3, 0, [], 1, 0, 0), (0, 3, 0, [], 1, 0, 0), (15, 51, 3, [], 3, 0, 0), (2, 0, 2, [], 1, 0, 0), (19, 6, 7, [], 3, 0, 282), (2, 0, 2, [], 1, 0, 0), (19, 6, 9, [], 3, 0, 284), (2, 3, 0, [], 1, 0, 0), (21, 0, 0, [], 1, 0, 0), (0, 100, 0, [], 2, 0, 0), (29, 71, 2, [5, 906, 907], 3, 0, 905), (2, 1, 1, [], 1, 0, 0), (9, 0, 0, [], 1, 0, 0), (14, 45, 0, [], 3, 0, 0), (0, 0, 0, [], 1, 0, 0), (34, 0, 0, [], 1, 0, 0)]
def bk_X6_endTogether_45 : List me_I := [(13, 3, 1, [], 3, 0, 0), (16, 18, 0, [], 3, 0, 0)]
def bk_X6_endTogether_51 : List me_I := [(0, 1, 0, [], 1, 0, 0), (34, 0, 0, [], 1, 0, 0)]
def cd_X6_endTogether : List (Nat × List me_I) := [(0, bk_X6_endTogether_0), (18, bk_X6_endTogether_18), (45, bk_X6_endTogether_45), (51, bk_X6_endTogether_51)]
theorem bq_X6_endTogether_0 : me_bk cd_X6_endTogether 0 = bk_X6_endTogether_0 := rfl
theorem bq_X6_endTogether_18 : me_bk cd_X6_endTogether 18 = bk_X6_endTogether_18 := rfl
theorem bq_X6_endTogether_45 : me_bk cd_X6_endTogether 45 = bk_X6_endTogether_45 := rfl
theorem bq_X6_endTogether_51 : me_bk cd_X6_endTogether 51 = bk_X6_endTogether_51 := rfl
set_option maxRecDepth 100000 in
theorem ck_X6_endTogether : cd_X6_endTogether.all (fun q => me_bck mt_nm RX6 cX6_endTogether 4 (some .boolean) [71] 0 q.2 q.1) = true := by decide +kernel
set_option maxRecDepth 100000 in
theorem cl_X6_endTogether {l : Launch} {R : Room} {fr lo mc : Nat} {sp : me_P} (h : me_M l yX6_endTogether (.code yX6_endTogether cX6_endTogether 4 (some .boolean)) fr lo mc sp) (h1 : fr + 1 ≤ R.frames) (h2 : lo + 23 ≤ R.locals) : me_cal mt_nm l R 115 (mc, sp) := ⟨cX6_endTogether, 4, (some .boolean), fr, lo, h, List.mem_of_getElem? (i := 1017) (by rfl), h1, by omega, List.mem_of_getElem? (i := 53) (by rfl), by decide, by decide⟩
def bk_X6_isPlayer_0 : List me_I := [(2, 0, 0, [], 1, 0, 0), (14, 13, 2, [], 3, 0, 0), (2, 0, 0, [], 1, 0, 0), (0, 3, 0, [], 1, 0, 0), (15, 13, 3, [], 3, 0, 0), (0, 1, 0, [], 1, 0, 0), (16, 14, 0, [], 3, 0, 0)]
def bk_X6_isPlayer_13 : List me_I := [(0, 0, 0, [], 1, 0, 0)]
def bk_X6_isPlayer_14 : List me_I := [(34, 0, 0, [], 1, 0, 0)]
def cd_X6_isPlayer : List (Nat × List me_I) := [(0, bk_X6_isPlayer_0), (13, bk_X6_isPlayer_13), (14, bk_X6_isPlayer_14)]
theorem bq_X6_isPlayer_0 : me_bk cd_X6_isPlayer 0 = bk_X6_isPlayer_0 := rfl
theorem bq_X6_isPlayer_13 : me_bk cd_X6_isPlayer 13 = bk_X6_isPlayer_13 := rfl
theorem bq_X6_isPlayer_14 : me_bk cd_X6_isPlayer 14 = bk_X6_isPlayer_14 := rfl
set_option maxRecDepth 100000 in
theorem ck_X6_isPlayer : cd_X6_isPlayer.all (fun q => me_bck mt_nm RX6 cX6_isPlayer 1 (some .boolean) [] 0 q.2 q.1) = true := by decide +kernel
set_option maxRecDepth 100000 in
theorem cl_X6_isPlayer {l : Launch} {R : Room} {fr lo mc : Nat} {sp : me_P} (h : me_M l yX6_isPlayer (.code yX6_isPlayer cX6_isPlayer 1 (some .boolean)) fr lo mc sp) (h1 : fr + 1 ≤ R.frames) (h2 : lo + 20 ≤ R.locals) : me_cal mt_nm l R 116 (mc, sp) := ⟨cX6_isPlayer, 1, (some .boolean), fr, lo, h, List.mem_of_getElem? (i := 619) (by rfl), h1, by omega, List.mem_of_getElem? (i := 53) (by rfl), by decide, by decide⟩
def bk_X6_isPass_0 : List me_I := [(2, 0, 0, [], 1, 0, 0), (0, 1, 0, [], 1, 0, 0), (15, 14, 2, [], 3, 0, 0), (2, 0, 0, [], 1, 0, 0), (0, 4, 0, [], 1, 0, 0), (15, 14, 4, [], 3, 0, 0), (0, 1, 0, [], 1, 0, 0), (16, 15, 0, [], 3, 0, 0)]
def bk_X6_isPass_14 : List me_I := [(0, 0, 0, [], 1, 0, 0)]
def bk_X6_isPass_15 : List me_I := [(34, 0, 0, [], 1, 0, 0)]
def cd_X6_isPass : List (Nat × List me_I) := [(0, bk_X6_isPass_0), (14, bk_X6_isPass_14), (15, bk_X6_isPass_15)]
theorem bq_X6_isPass_0 : me_bk cd_X6_isPass 0 = bk_X6_isPass_0 := rfl
theorem bq_X6_isPass_14 : me_bk cd_X6_isPass 14 = bk_X6_isPass_14 := rfl
theorem bq_X6_isPass_15 : me_bk cd_X6_isPass 15 = bk_X6_isPass_15 := rfl
set_option maxRecDepth 100000 in
theorem ck_X6_isPass : cd_X6_isPass.all (fun q => me_bck mt_nm RX6 cX6_isPass 1 (some .boolean) [] 0 q.2 q.1) = true := by decide +kernel
set_option maxRecDepth 100000 in
theorem cl_X6_isPass {l : Launch} {R : Room} {fr lo mc : Nat} {sp : me_P} (h : me_M l yX6_isPass (.code yX6_isPass cX6_isPass 1 (some .boolean)) fr lo mc sp) (h1 : fr + 1 ≤ R.frames) (h2 : lo + 20 ≤ R.locals) : me_cal mt_nm l R 117 (mc, sp) := ⟨cX6_isPass, 1, (some .boolean), fr, lo, h, List.mem_of_getElem? (i := 677) (by rfl), h1, by omega, List.mem_of_getElem? (i := 53) (by rfl), by decide, by decide⟩
def bk_X6_isBeatCount_0 : List me_I := [(2, 0, 0, [], 1, 0, 0), (0, 1, 0, [], 1, 0, 0), (15, 15, 2, [], 3, 0, 0), (2, 0, 0, [], 1, 0, 0), (0, 9, 0, [], 2, 0, 0), (15, 15, 4, [], 3, 0, 0), (0, 1, 0, [], 1, 0, 0), (16, 16, 0, [], 3, 0, 0)]
def bk_X6_isBeatCount_15 : List me_I := [(0, 0, 0, [], 1, 0, 0)]
def bk_X6_isBeatCount_16 : List me_I := [(34, 0, 0, [], 1, 0, 0)]
def cd_X6_isBeatCount : List (Nat × List me_I) := [(0, bk_X6_isBeatCount_0), (15, bk_X6_isBeatCount_15), (16, bk_X6_isBeatCount_16)]
theorem bq_X6_isBeatCount_0 : me_bk cd_X6_isBeatCount 0 = bk_X6_isBeatCount_0 := rfl
theorem bq_X6_isBeatCount_15 : me_bk cd_X6_isBeatCount 15 = bk_X6_isBeatCount_15 := rfl
theorem bq_X6_isBeatCount_16 : me_bk cd_X6_isBeatCount 16 = bk_X6_isBeatCount_16 := rfl
set_option maxRecDepth 100000 in
theorem ck_X6_isBeatCount : cd_X6_isBeatCount.all (fun q => me_bck mt_nm RX6 cX6_isBeatCount 1 (some .boolean) [] 0 q.2 q.1) = true := by decide +kernel
set_option maxRecDepth 100000 in
theorem cl_X6_isBeatCount {l : Launch} {R : Room} {fr lo mc : Nat} {sp : me_P} (h : me_M l yX6_isBeatCount (.code yX6_isBeatCount cX6_isBeatCount 1 (some .boolean)) fr lo mc sp) (h1 : fr + 1 ≤ R.frames) (h2 : lo + 20 ≤ R.locals) : me_cal mt_nm l R 118 (mc, sp) := ⟨cX6_isBeatCount, 1, (some .boolean), fr, lo, h, List.mem_of_getElem? (i := 790) (by rfl), h1, by omega, List.mem_of_getElem? (i := 53) (by rfl), by decide, by decide⟩
def bk_X6_isStretch_0 : List me_I := [(2, 0, 0, [], 1, 0, 0), (0, 1, 0, [], 1, 0, 0), (15, 14, 2, [], 3, 0, 0), (2, 0, 0, [], 1, 0, 0), (0, 4, 0, [], 1, 0, 0), (15, 14, 4, [], 3, 0, 0), (0, 1, 0, [], 1, 0, 0), (16, 15, 0, [], 3, 0, 0)]
def bk_X6_isStretch_14 : List me_I := [(0, 0, 0, [], 1, 0, 0)]
def bk_X6_isStretch_15 : List me_I := [(34, 0, 0, [], 1, 0, 0)]
def cd_X6_isStretch : List (Nat × List me_I) := [(0, bk_X6_isStretch_0), (14, bk_X6_isStretch_14), (15, bk_X6_isStretch_15)]
theorem bq_X6_isStretch_0 : me_bk cd_X6_isStretch 0 = bk_X6_isStretch_0 := rfl
theorem bq_X6_isStretch_14 : me_bk cd_X6_isStretch 14 = bk_X6_isStretch_14 := rfl
theorem bq_X6_isStretch_15 : me_bk cd_X6_isStretch 15 = bk_X6_isStretch_15 := rfl
set_option maxRecDepth 100000 in
theorem ck_X6_isStretch : cd_X6_isStretch.all (fun q => me_bck mt_nm RX6 cX6_isStretch 1 (some .boolean) [] 0 q.2 q.1) = true := by decide +kernel
set_option maxRecDepth 100000 in
theorem cl_X6_isStretch {l : Launch} {R : Room} {fr lo mc : Nat} {sp : me_P} (h : me_M l yX6_isStretch (.code yX6_isStretch cX6_isStretch 1 (some .boolean)) fr lo mc sp) (h1 : fr + 1 ≤ R.frames) (h2 : lo + 20 ≤ R.locals) : me_cal mt_nm l R 119 (mc, sp) := ⟨cX6_isStretch, 1, (some .boolean), fr, lo, h, List.mem_of_getElem? (i := 819) (by rfl), h1, by omega, List.mem_of_getElem? (i := 53) (by rfl), by decide, by decide⟩
def bk_X6_isMark_0 : List me_I := [(2, 0, 0, [], 1, 0, 0), (14, 17, 0, [], 3, 0, 0), (2, 0, 0, [], 1, 0, 0), (0, 30, 0, [], 2, 0, 0), (15, 21, 2, [], 3, 0, 0), (2, 0, 0, [], 1, 0, 0), (0, 240, 0, [], 3, 0, 0), (15, 21, 4, [], 3, 0, 0)]
def bk_X6_isMark_17 : List me_I := [(0, 1, 0, [], 1, 0, 0), (16, 22, 0, [], 3, 0, 0)]
def bk_X6_isMark_21 : List me_I := [(0, 0, 0, [], 1, 0, 0)]
def bk_X6_isMark_22 : List me_I := [(34, 0, 0, [], 1, 0, 0)]
def cd_X6_isMark : List (Nat × List me_I) := [(0, bk_X6_isMark_0), (17, bk_X6_isMark_17), (21, bk_X6_isMark_21), (22, bk_X6_isMark_22)]
theorem bq_X6_isMark_0 : me_bk cd_X6_isMark 0 = bk_X6_isMark_0 := rfl
theorem bq_X6_isMark_17 : me_bk cd_X6_isMark 17 = bk_X6_isMark_17 := rfl
theorem bq_X6_isMark_21 : me_bk cd_X6_isMark 21 = bk_X6_isMark_21 := rfl
theorem bq_X6_isMark_22 : me_bk cd_X6_isMark 22 = bk_X6_isMark_22 := rfl
set_option maxRecDepth 100000 in
theorem ck_X6_isMark : cd_X6_isMark.all (fun q => me_bck mt_nm RX6 cX6_isMark 1 (some .boolean) [] 0 q.2 q.1) = true := by decide +kernel
set_option maxRecDepth 100000 in
theorem cl_X6_isMark {l : Launch} {R : Room} {fr lo mc : Nat} {sp : me_P} (h : me_M l yX6_isMark (.code yX6_isMark cX6_isMark 1 (some .boolean)) fr lo mc sp) (h1 : fr + 1 ≤ R.frames) (h2 : lo + 20 ≤ R.locals) : me_cal mt_nm l R 120 (mc, sp) := ⟨cX6_isMark, 1, (some .boolean), fr, lo, h, List.mem_of_getElem? (i := 808) (by rfl), h1, by omega, List.mem_of_getElem? (i := 53) (by rfl), by decide, by decide⟩
def bk_X6_beatLength_0 : List me_I := [(2, 0, 0, [], 1, 0, 0), (0, 1, 0, [], 1, 0, 0), (15, 9, 3, [], 3, 0, 0), (0, 0, 0, [], 1, 0, 0), (16, 14, 0, [], 3, 0, 0)]
def bk_X6_beatLength_9 : List me_I := [(0, 60000000, 0, [], 3, 0, 575), (2, 0, 0, [], 1, 0, 0), (4, 8, 0, [], 1, 0, 0)]
def bk_X6_beatLength_14 : List me_I := [(32, 0, 0, [], 1, 0, 0)]
def cd_X6_beatLength : List (Nat × List me_I) := [(0, bk_X6_beatLength_0), (9, bk_X6_beatLength_9), (14, bk_X6_beatLength_14)]
theorem bq_X6_beatLength_0 : me_bk cd_X6_beatLength 0 = bk_X6_beatLength_0 := rfl
theorem bq_X6_beatLength_9 : me_bk cd_X6_beatLength 9 = bk_X6_beatLength_9 := rfl
theorem bq_X6_beatLength_14 : me_bk cd_X6_beatLength 14 = bk_X6_beatLength_14 := rfl
set_option maxRecDepth 100000 in
theorem ck_X6_beatLength : cd_X6_beatLength.all (fun q => me_bck mt_nm RX6 cX6_beatLength 1 (some .int) [] 0 q.2 q.1) = true := by decide +kernel
set_option maxRecDepth 100000 in
theorem cl_X6_beatLength {l : Launch} {R : Room} {fr lo mc : Nat} {sp : me_P} (h : me_M l yX6_beatLength (.code yX6_beatLength cX6_beatLength 1 (some .int)) fr lo mc sp) (h1 : fr + 1 ≤ R.frames) (h2 : lo + 20 ≤ R.locals) : me_cal mt_nm l R 121 (mc, sp) := ⟨cX6_beatLength, 1, (some .int), fr, lo, h, List.mem_of_getElem? (i := 574) (by rfl), h1, by omega, List.mem_of_getElem? (i := 53) (by rfl), by decide, by decide⟩
def bk_X6_copyNumbers_0 : List me_I := [(2, 0, 2, [], 1, 0, 0), (0, 0, 0, [], 1, 0, 0), (2, 1, 2, [], 1, 0, 0), (0, 0, 0, [], 1, 0, 0), (2, 0, 2, [], 1, 0, 0), (28, 0, 0, [], 1, 0, 0), (2, 1, 2, [], 1, 0, 0), (28, 0, 0, [], 1, 0, 0), (37, 0, 0, [], 3, 0, 494), (36, 0, 0, [], 3, 0, 497), (31, 0, 0, [], 1, 0, 0)]
def cd_X6_copyNumbers : List (Nat × List me_I) := [(0, bk_X6_copyNumbers_0)]
theorem bq_X6_copyNumbers_0 : me_bk cd_X6_copyNumbers 0 = bk_X6_copyNumbers_0 := rfl
set_option maxRecDepth 100000 in
theorem ck_X6_copyNumbers : cd_X6_copyNumbers.all (fun q => me_bck mt_nm RX6 cX6_copyNumbers 2 none [] 0 q.2 q.1) = true := by decide +kernel
set_option maxRecDepth 100000 in
theorem cl_X6_copyNumbers {l : Launch} {R : Room} {fr lo mc : Nat} {sp : me_P} (h : me_M l yX6_copyNumbers (.code yX6_copyNumbers cX6_copyNumbers 2 none) fr lo mc sp) (h1 : fr + 1 ≤ R.frames) (h2 : lo + 21 ≤ R.locals) : me_cal mt_nm l R 122 (mc, sp) := ⟨cX6_copyNumbers, 2, none, fr, lo, h, List.mem_of_getElem? (i := 493) (by rfl), h1, by omega, List.mem_of_getElem? (i := 53) (by rfl), by decide, by decide⟩
