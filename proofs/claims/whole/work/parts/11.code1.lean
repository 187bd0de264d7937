def bk_X0_remember_0 : List me_I := [(2, 0, 2, [], 1, 0, 0), (19, 0, 2, [], 3, 0, 178), (0, 14, 0, [], 2, 0, 0), (15, 32, 1, [], 3, 0, 0), (2, 0, 2, [], 1, 0, 0), (2, 0, 2, [], 1, 0, 0), (19, 0, 1, [], 3, 0, 177), (0, 1, 0, [], 1, 0, 0), (4, 0, 0, [], 1, 0, 0), (0, 14, 0, [], 2, 0, 0), (4, 9, 0, [], 1, 0, 0), (20, 0, 1, [], 3, 0, 177), (2, 0, 2, [], 1, 0, 0), (10, 0, 0, [], 1, 0, 0), (19, 0, 2, [], 3, 0, 178), (0, 1, 0, [], 1, 0, 0), (4, 1, 0, [], 1, 0, 0), (20, 0, 2, [], 3, 0, 178)]
def bk_X0_remember_32 : List me_I := [(2, 0, 2, [], 1, 0, 0), (19, 0, 0, [], 3, 0, 176), (2, 0, 2, [], 1, 0, 0), (19, 0, 1, [], 3, 0, 177), (2, 0, 2, [], 1, 0, 0), (19, 0, 2, [], 3, 0, 178), (4, 0, 0, [], 1, 0, 0), (0, 14, 0, [], 2, 0, 0), (4, 9, 0, [], 1, 0, 0), (27, 0, 0, [], 1, 0, 0), (2, 1, 2, [], 1, 0, 0), (29, 31, 1, [3, 488, 489], 3, 0, 797), (2, 0, 2, [], 1, 0, 0), (10, 0, 0, [], 1, 0, 0), (19, 0, 2, [], 3, 0, 178), (0, 1, 0, [], 1, 0, 0), (4, 0, 0, [], 1, 0, 0), (20, 0, 2, [], 3, 0, 178), (31, 0, 0, [], 1, 0, 0)]
def cd_X0_remember : List (Nat × List me_I) := [(0, bk_X0_remember_0), (32, bk_X0_remember_32)]
theorem bq_X0_remember_0 : me_bk cd_X0_remember 0 = bk_X0_remember_0 := rfl
theorem bq_X0_remember_32 : me_bk cd_X0_remember 32 = bk_X0_remember_32 := rfl
set_option maxRecDepth 100000 in
theorem ck_X0_remember : cd_X0_remember.all (fun q => me_bck mt_nm RX0 cX0_remember 2 none [31] 0 q.2 q.1) = true := by decide +kernel
set_option maxRecDepth 100000 in
theorem cl_X0_remember {l : Launch} {R : Room} {fr lo mc : Nat} {sp : me_P} (h : me_M l yX0_remember (.code yX0_remember cX0_remember 2 none) fr lo mc sp) (h1 : fr + 1 ≤ R.frames) (h2 : lo + 21 ≤ R.locals) : me_cal mt_nm l R 1 (mc, sp) := ⟨cX0_remember, 2, none, fr, lo, h, List.mem_of_getElem? (i := 796) (by rfl), h1, by omega, List.mem_of_getElem? (i := 56) (by rfl), by decide, by decide⟩
def bk_X0_takeBack_0 : List me_I := [(2, 0, 2, [], 1, 0, 0), (19, 0, 2, [], 3, 0, 178), (14, 8, 1, [], 3, 0, 0), (31, 0, 0, [], 1, 0, 0)]
def bk_X0_takeBack_8 : List me_I := [(2, 0, 2, [], 1, 0, 0), (10, 0, 0, [], 1, 0, 0), (19, 0, 2, [], 3, 0, 178), (0, 1, 0, [], 1, 0, 0), (4, 1, 0, [], 1, 0, 0), (20, 0, 2, [], 3, 0, 178), (2, 1, 2, [], 1, 0, 0), (2, 0, 2, [], 1, 0, 0), (19, 0, 0, [], 3, 0, 176), (2, 0, 2, [], 1, 0, 0), (19, 0, 1, [], 3, 0, 177), (2, 0, 2, [], 1, 0, 0), (19, 0, 2, [], 3, 0, 178), (4, 0, 0, [], 1, 0, 0), (0, 14, 0, [], 2, 0, 0), (4, 9, 0, [], 1, 0, 0), (27, 0, 0, [], 1, 0, 0), (29, 31, 1, [3, 488, 489], 3, 0, 797), (31, 0, 0, [], 1, 0, 0)]
def cd_X0_takeBack : List (Nat × List me_I) := [(0, bk_X0_takeBack_0), (8, bk_X0_takeBack_8)]
theorem bq_X0_takeBack_0 : me_bk cd_X0_takeBack 0 = bk_X0_takeBack_0 := rfl
theorem bq_X0_takeBack_8 : me_bk cd_X0_takeBack 8 = bk_X0_takeBack_8 := rfl
set_option maxRecDepth 100000 in
theorem ck_X0_takeBack : cd_X0_takeBack.all (fun q => me_bck mt_nm RX0 cX0_takeBack 2 none [31] 0 q.2 q.1) = true := by decide +kernel
set_option maxRecDepth 100000 in
theorem cl_X0_takeBack {l : Launch} {R : Room} {fr lo mc : Nat} {sp : me_P} (h : me_M l yX0_takeBack (.code yX0_takeBack cX0_takeBack 2 none) fr lo mc sp) (h1 : fr + 1 ≤ R.frames) (h2 : lo + 21 ≤ R.locals) : me_cal mt_nm l R 2 (mc, sp) := ⟨cX0_takeBack, 2, none, fr, lo, h, List.mem_of_getElem? (i := 886) (by rfl), h1, by omega, List.mem_of_getElem? (i := 56) (by rfl), by decide, by decide⟩
def bk_X0_forget_0 : List me_I := [(2, 0, 2, [], 1, 0, 0), (0, 0, 0, [], 1, 0, 0), (20, 0, 2, [], 3, 0, 178), (31, 0, 0, [], 1, 0, 0)]
def cd_X0_forget : List (Nat × List me_I) := [(0, bk_X0_forget_0)]
theorem bq_X0_forget_0 : me_bk cd_X0_forget 0 = bk_X0_forget_0 := rfl
set_option maxRecDepth 100000 in
theorem ck_X0_forget : cd_X0_forget.all (fun q => me_bck mt_nm RX0 cX0_forget 1 none [] 0 q.2 q.1) = true := by decide +kernel
set_option maxRecDepth 100000 in
theorem cl_X0_forget {l : Launch} {R : Room} {fr lo mc : Nat} {sp : me_P} (h : me_M l yX0_forget (.code yX0_forget cX0_forget 1 none) fr lo mc sp) (h1 : fr + 1 ≤ R.frames) (h2 : lo + 20 ≤ R.locals) : me_cal mt_nm l R 3 (mc, sp) := ⟨cX0_forget, 1, none, fr, lo, h, List.mem_of_getElem? (i := 503) (by rfl), h1, by omega, List.mem_of_getElem? (i := 56) (by rfl), by decide, by decide⟩
def bk_X1_fill_0 : List me_I := [(2, 0, 2, [], 1, 0, 0), (0, 0, 0, [], 1, 0, 0), (20, 1, 0, [], 3, 0, 193), (2, 0, 2, [], 1, 0, 0), (1, 0, 0, [], 1, 0, 0), (20, 1, 1, [], 3, 0, 196), (2, 0, 2, [], 1, 0, 0), (0, 0, 0, [], 1, 0, 0), (20, 1, 5, [], 3, 0, 205), (0, 0, 0, [], 1, 0, 0), (3, 3, 0, [], 1, 0, 0)]
def bk_X1_fill_17 : List me_I := [(2, 3, 0, [], 1, 0, 0), (2, 1, 2, [], 1, 0, 0), (19, 3, 0, [], 3, 0, 93), (15, 75, 3, [], 3, 0, 0), (2, 1, 2, [], 1, 0, 0), (2, 3, 0, [], 1, 0, 0), (29, 40, 1, [3, 565, 566], 3, 0, 625), (3, 4, 0, [], 2, 0, 0), (2, 4, 0, [], 2, 0, 0), (0, 9, 1, [], 2, 0, 0), (15, 50, 1, [], 3, 0, 0), (2, 0, 2, [], 1, 0, 0), (2, 1, 2, [], 1, 0, 0), (2, 2, 0, [], 1, 0, 0), (2, 3, 0, [], 1, 0, 0), (0, 1, 0, [], 1, 0, 0), (29, 7, 4, [1, 628, 13], 3, 0, 626), (16, 69, 0, [], 3, 0, 0)]
def bk_X1_fill_50 : List me_I := [(2, 1, 2, [], 1, 0, 0), (19, 3, 6, [], 3, 0, 112), (2, 4, 0, [], 2, 0, 0), (21, 0, 0, [], 1, 0, 0), (2, 3, 0, [], 1, 0, 0), (15, 69, 1, [], 3, 0, 0), (2, 0, 2, [], 1, 0, 0), (2, 1, 2, [], 1, 0, 0), (2, 2, 0, [], 1, 0, 0), (2, 4, 0, [], 2, 0, 0), (29, 6, 3, [1, 643, 14], 3, 0, 641)]
def bk_X1_fill_69 : List me_I := [(13, 3, 1, [], 3, 0, 0), (16, 17, 0, [], 3, 0, 0)]
def bk_X1_fill_75 : List me_I := [(31, 0, 0, [], 1, 0, 0)]
def cd_X1_fill : List (Nat × List me_I) := [(0, bk_X1_fill_0), (17, bk_X1_fill_17), (50, bk_X1_fill_50), (69, bk_X1_fill_69), (75, bk_X1_fill_75)]
theorem bq_X1_fill_0 : me_bk cd_X1_fill 0 = bk_X1_fill_0 := rfl
theorem bq_X1_fill_17 : me_bk cd_X1_fill 17 = bk_X1_fill_17 := rfl
theorem bq_X1_fill_50 : me_bk cd_X1_fill 50 = bk_X1_fill_50 := rfl
theorem bq_X1_fill_69 : me_bk cd_X1_fill 69 = bk_X1_fill_69 := rfl
theorem bq_X1_fill_75 : me_bk cd_X1_fill 75 = bk_X1_fill_75 := rfl
set_option maxRecDepth 100000 in
theorem ck_X1_fill : cd_X1_fill.all (fun q => me_bck mt_nm RX1 cX1_fill 5 none [6, 7, 40] 0 q.2 q.1) = true := by decide +kernel
set_option maxRecDepth 100000 in
theorem cl_X1_fill {l : Launch} {R : Room} {fr lo mc : Nat} {sp : me_P} (h : me_M l yX1_fill (.code yX1_fill cX1_fill 5 none) fr lo mc sp) (h1 : fr + 1 ≤ R.frames) (h2 : lo + 24 ≤ R.locals) : me_cal mt_nm l R 5 (mc, sp) := ⟨cX1_fill, 5, none, fr, lo, h, List.mem_of_getElem? (i := 624) (by rfl), h1, by omega, List.mem_of_getElem? (i := 57) (by rfl), by decide, by decide⟩
def bk_X1_playSection_0 : List me_I := [(0, 1, 0, [], 1, 0, 0), (3, 4, 0, [], 2, 0, 0)]
def bk_X1_playSection_3 : List me_I := [(2, 4, 0, [], 2, 0, 0), (2, 1, 2, [], 1, 0, 0), (19, 3, 8, [], 3, 0, 118), (2, 3, 0, [], 1, 0, 0), (21, 0, 0, [], 1, 0, 0), (15, 64, 4, [], 3, 0, 0), (2, 1, 2, [], 1, 0, 0), (19, 3, 6, [], 3, 0, 112), (2, 3, 0, [], 1, 0, 0), (21, 0, 0, [], 1, 0, 0), (3, 5, 0, [], 2, 0, 0)]
def bk_X1_playSection_22 : List me_I := [(2, 5, 0, [], 2, 0, 0), (2, 1, 2, [], 1, 0, 0), (19, 3, 7, [], 3, 0, 115), (2, 3, 0, [], 1, 0, 0), (21, 0, 0, [], 1, 0, 0), (15, 58, 4, [], 3, 0, 0), (2, 5, 0, [], 2, 0, 0), (2, 1, 2, [], 1, 0, 0), (19, 3, 0, [], 3, 0, 93), (15, 58, 3, [], 3, 0, 0), (2, 0, 2, [], 1, 0, 0), (2, 1, 2, [], 1, 0, 0), (2, 2, 0, [], 1, 0, 0), (2, 5, 0, [], 2, 0, 0), (2, 4, 0, [], 2, 0, 0), (29, 7, 4, [1, 628, 13], 3, 0, 626), (13, 5, 1, [], 3, 0, 0), (16, 22, 0, [], 3, 0, 0)]
def bk_X1_playSection_58 : List me_I := [(13, 4, 1, [], 3, 0, 0), (16, 3, 0, [], 3, 0, 0)]
def bk_X1_playSection_64 : List me_I := [(31, 0, 0, [], 1, 0, 0)]
def cd_X1_playSection : List (Nat × List me_I) := [(0, bk_X1_playSection_0), (3, bk_X1_playSection_3), (22, bk_X1_playSection_22), (58, bk_X1_playSection_58), (64, bk_X1_playSection_64)]
theorem bq_X1_playSection_0 : me_bk cd_X1_playSection 0 = bk_X1_playSection_0 := rfl
theorem bq_X1_playSection_3 : me_bk cd_X1_playSection 3 = bk_X1_playSection_3 := rfl
theorem bq_X1_playSection_22 : me_bk cd_X1_playSection 22 = bk_X1_playSection_22 := rfl
theorem bq_X1_playSection_58 : me_bk cd_X1_playSection 58 = bk_X1_playSection_58 := rfl
theorem bq_X1_playSection_64 : me_bk cd_X1_playSection 64 = bk_X1_playSection_64 := rfl
set_option maxRecDepth 100000 in
theorem ck_X1_playSection : cd_X1_playSection.all (fun q => me_bck mt_nm RX1 cX1_playSection 6 none [7] 0 q.2 q.1) = true := by decide +kernel
set_option maxRecDepth 100000 in
theorem cl_X1_playSection {l : Launch} {R : Room} {fr lo mc : Nat} {sp : me_P} (h : me_M l yX1_playSection (.code yX1_playSection cX1_playSection 6 none) fr lo mc sp) (h1 : fr + 1 ≤ R.frames) (h2 : lo + 25 ≤ R.locals) : me_cal mt_nm l R 6 (mc, sp) := ⟨cX1_playSection, 6, none, fr, lo, h, List.mem_of_getElem? (i := 644) (by rfl), h1, by omega, List.mem_of_getElem? (i := 57) (by rfl), by decide, by decide⟩
def bk_X1_playBar_0 : List me_I := [(2, 1, 2, [], 1, 0, 0), (2, 3, 0, [], 1, 0, 0), (2, 4, 0, [], 2, 0, 0), (29, 36, 2, [3, 631, 632], 3, 0, 630), (14, 28, 1, [], 3, 0, 0), (2, 1, 2, [], 1, 0, 0), (2, 2, 0, [], 1, 0, 0), (2, 3, 0, [], 1, 0, 0), (29, 37, 2, [3, 635, 636], 3, 0, 634), (14, 28, 1, [], 3, 0, 0), (2, 0, 2, [], 1, 0, 0), (19, 1, 0, [], 3, 0, 193), (0, 96, 0, [], 2, 0, 0), (15, 29, 2, [], 3, 0, 0)]
def bk_X1_playBar_28 : List me_I := [(31, 0, 0, [], 1, 0, 0)]
def bk_X1_playBar_29 : List me_I := [(2, 0, 2, [], 1, 0, 0), (19, 1, 2, [], 3, 0, 199), (2, 0, 2, [], 1, 0, 0), (19, 1, 0, [], 3, 0, 193), (2, 3, 0, [], 1, 0, 0), (22, 0, 0, [], 1, 0, 0), (2, 0, 2, [], 1, 0, 0), (19, 1, 3, [], 3, 0, 201), (2, 0, 2, [], 1, 0, 0), (19, 1, 0, [], 3, 0, 193), (2, 4, 0, [], 2, 0, 0), (22, 0, 0, [], 1, 0, 0), (2, 0, 2, [], 1, 0, 0), (19, 1, 4, [], 3, 0, 203), (2, 0, 2, [], 1, 0, 0), (19, 1, 0, [], 3, 0, 193), (2, 0, 2, [], 1, 0, 0), (19, 1, 1, [], 3, 0, 196), (24, 0, 0, [], 1, 0, 0), (2, 1, 2, [], 1, 0, 0), (2, 3, 0, [], 1, 0, 0), (29, 39, 1, [3, 561, 562], 3, 0, 638), (41, 121, 1, [573], 3, 0, 639), (3, 5, 0, [], 2, 0, 0), (0, 1, 0, [], 1, 0, 0), (3, 6, 0, [], 2, 0, 0)]
def bk_X1_playBar_76 : List me_I := [(2, 6, 0, [], 2, 0, 0), (2, 1, 2, [], 1, 0, 0), (19, 3, 2, [], 3, 0, 101), (2, 3, 0, [], 1, 0, 0), (21, 0, 0, [], 1, 0, 0), (15, 166, 4, [], 3, 0, 0), (2, 0, 2, [], 1, 0, 0), (19, 1, 5, [], 3, 0, 205), (0, 864, 0, [], 3, 0, 0), (15, 166, 3, [], 3, 0, 0), (2, 0, 2, [], 1, 0, 0), (19, 1, 6, [], 3, 0, 206), (2, 0, 2, [], 1, 0, 0), (19, 1, 5, [], 3, 0, 205), (2, 0, 2, [], 1, 0, 0), (19, 1, 1, [], 3, 0, 196), (24, 0, 0, [], 1, 0, 0), (2, 0, 2, [], 1, 0, 0), (19, 1, 7, [], 3, 0, 207), (2, 0, 2, [], 1, 0, 0), (19, 1, 5, [], 3, 0, 205), (0, 10, 0, [], 2, 0, 0), (2, 0, 2, [], 1, 0, 0), (19, 1, 0, [], 3, 0, 193), (4, 2, 0, [], 1, 0, 0), (2, 6, 0, [], 2, 0, 0), (4, 0, 0, [], 1, 0, 0), (22, 0, 0, [], 1, 0, 0), (2, 0, 2, [], 1, 0, 0), (10, 0, 0, [], 1, 0, 0), (19, 1, 5, [], 3, 0, 205), (0, 1, 0, [], 1, 0, 0), (4, 0, 0, [], 1, 0, 0), (20, 1, 5, [], 3, 0, 205), (2, 0, 2, [], 1, 0, 0), (10, 0, 0, [], 1, 0, 0), (19, 1, 1, [], 3, 0, 196), (2, 5, 0, [], 2, 0, 0), (7, 0, 0, [], 1, 0, 0), (2, 1, 2, [], 1, 0, 0), (2, 3, 0, [], 1, 0, 0), (2, 6, 0, [], 2, 0, 0), (29, 38, 2, [3, 520, 521], 3, 0, 640), (7, 0, 0, [], 1, 0, 0), (5, 2, 0, [], 1, 0, 0), (5, 0, 0, [], 1, 0, 0), (20, 1, 1, [], 3, 0, 196), (13, 6, 1, [], 3, 0, 0), (16, 76, 0, [], 3, 0, 0)]
def bk_X1_playBar_166 : List me_I := [(2, 0, 2, [], 1, 0, 0), (10, 0, 0, [], 1, 0, 0), (19, 1, 0, [], 3, 0, 193), (0, 1, 0, [], 1, 0, 0), (4, 0, 0, [], 1, 0, 0), (20, 1, 0, [], 3, 0, 193), (31, 0, 0, [], 1, 0, 0)]
def cd_X1_playBar : List (Nat × List me_I) := [(0, bk_X1_playBar_0), (28, bk_X1_playBar_28), (29, bk_X1_playBar_29), (76, bk_X1_playBar_76), (166, bk_X1_playBar_166)]
theorem bq_X1_playBar_0 : me_bk cd_X1_playBar 0 = bk_X1_playBar_0 := rfl
theorem bq_X1_playBar_28 : me_bk cd_X1_playBar 28 = bk_X1_playBar_28 := rfl
theorem bq_X1_playBar_29 : me_bk cd_X1_playBar 29 = bk_X1_playBar_29 := rfl
theorem bq_X1_playBar_76 : me_bk cd_X1_playBar 76 = bk_X1_playBar_76 := rfl
theorem bq_X1_playBar_166 : me_bk cd_X1_playBar 166 = bk_X1_playBar_166 := rfl
set_option maxRecDepth 100000 in
theorem ck_X1_playBar : cd_X1_playBar.all (fun q => me_bck mt_nm RX1 cX1_playBar 7 none [36, 37, 38, 39, 121] 0 q.2 q.1) = true := by decide +kernel
set_option maxRecDepth 100000 in
theorem cl_X1_playBar {l : Launch} {R : Room} {fr lo mc : Nat} {sp : me_P} (h : me_M l yX1_playBar (.code yX1_playBar cX1_playBar 7 none) fr lo mc sp) (h1 : fr + 1 ≤ R.frames) (h2 : lo + 26 ≤ R.locals) : me_cal mt_nm l R 7 (mc, sp) := ⟨cX1_playBar, 7, none, fr, lo, h, List.mem_of_getElem? (i := 629) (by rfl), h1, by omega, List.mem_of_getElem? (i := 57) (by rfl), by decide, by decide⟩
def bk_X1_countSameBarBefore_0 : List me_I := [(0, 0, 0, [], 1, 0, 0), (3, 2, 0, [], 1, 0, 0), (0, 0, 0, [], 1, 0, 0), (3, 3, 0, [], 1, 0, 0)]
def bk_X1_countSameBarBefore_4 : List me_I := [(2, 3, 0, [], 1, 0, 0), (2, 1, 0, [], 1, 0, 0), (15, 41, 3, [], 3, 0, 0), (2, 1, 0, [], 1, 0, 0), (2, 0, 2, [], 1, 0, 0), (19, 1, 0, [], 3, 0, 193), (15, 41, 3, [], 3, 0, 0), (2, 0, 2, [], 1, 0, 0), (19, 1, 2, [], 3, 0, 199), (2, 3, 0, [], 1, 0, 0), (21, 0, 0, [], 1, 0, 0), (2, 0, 2, [], 1, 0, 0), (19, 1, 2, [], 3, 0, 199), (2, 1, 0, [], 1, 0, 0), (21, 0, 0, [], 1, 0, 0), (15, 35, 1, [], 3, 0, 0), (13, 2, 1, [], 3, 0, 0)]
def bk_X1_countSameBarBefore_35 : List me_I := [(13, 3, 1, [], 3, 0, 0), (16, 4, 0, [], 3, 0, 0)]
def bk_X1_countSameBarBefore_41 : List me_I := [(2, 2, 0, [], 1, 0, 0), (32, 0, 0, [], 1, 0, 0)]
def cd_X1_countSameBarBefore : List (Nat × List me_I) := [(0, bk_X1_countSameBarBefore_0), (4, bk_X1_countSameBarBefore_4), (35, bk_X1_countSameBarBefore_35), (41, bk_X1_countSameBarBefore_41)]
theorem bq_X1_countSameBarBefore_0 : me_bk cd_X1_countSameBarBefore 0 = bk_X1_countSameBarBefore_0 := rfl
theorem bq_X1_countSameBarBefore_4 : me_bk cd_X1_countSameBarBefore 4 = bk_X1_countSameBarBefore_4 := rfl
theorem bq_X1_countSameBarBefore_35 : me_bk cd_X1_countSameBarBefore 35 = bk_X1_countSameBarBefore_35 := rfl
theorem bq_X1_countSameBarBefore_41 : me_bk cd_X1_countSameBarBefore 41 = bk_X1_countSameBarBefore_41 := rfl
set_option maxRecDepth 100000 in
theorem ck_X1_countSameBarBefore : cd_X1_countSameBarBefore.all (fun q => me_bck mt_nm RX1 cX1_countSameBarBefore 4 (some .int) [] 0 q.2 q.1) = true := by decide +kernel
set_option maxRecDepth 100000 in
theorem cl_X1_countSameBarBefore {l : Launch} {R : Room} {fr lo mc : Nat} {sp : me_P} (h : me_M l yX1_countSameBarBefore (.code yX1_countSameBarBefore cX1_countSameBarBefore 4 (some .int)) fr lo mc sp) (h1 : fr + 1 ≤ R.frames) (h2 : lo + 23 ≤ R.locals) : me_cal mt_nm l R 8 (mc, sp) := ⟨cX1_countSameBarBefore, 4, (some .int), fr, lo, h, List.mem_of_getElem? (i := 656) (by rfl), h1, by omega, List.mem_of_getElem? (i := 57) (by rfl), by decide, by decide⟩
def bk_X1_indexOf_0 : List me_I := [(0, 0, 0, [], 1, 0, 0), (3, 3, 0, [], 1, 0, 0)]
def bk_X1_indexOf_2 : List me_I := [(2, 3, 0, [], 1, 0, 0), (2, 0, 2, [], 1, 0, 0), (19, 1, 0, [], 3, 0, 193), (15, 38, 3, [], 3, 0, 0), (2, 0, 2, [], 1, 0, 0), (19, 1, 2, [], 3, 0, 199), (2, 3, 0, [], 1, 0, 0), (21, 0, 0, [], 1, 0, 0), (2, 1, 0, [], 1, 0, 0), (15, 32, 1, [], 3, 0, 0), (2, 0, 2, [], 1, 0, 0), (19, 1, 3, [], 3, 0, 201), (2, 3, 0, [], 1, 0, 0), (21, 0, 0, [], 1, 0, 0), (2, 2, 0, [], 1, 0, 0), (15, 32, 1, [], 3, 0, 0), (2, 3, 0, [], 1, 0, 0), (32, 0, 0, [], 1, 0, 0)]
def bk_X1_indexOf_32 : List me_I := [(13, 3, 1, [], 3, 0, 0), (16, 2, 0, [], 3, 0, 0)]
def bk_X1_indexOf_38 : List me_I := [(0, 9, 1, [], 2, 0, 0), (32, 0, 0, [], 1, 0, 0)]
def cd_X1_indexOf : List (Nat × List me_I) := [(0, bk_X1_indexOf_0), (2, bk_X1_indexOf_2), (32, bk_X1_indexOf_32), (38, bk_X1_indexOf_38)]
theorem bq_X1_indexOf_0 : me_bk cd_X1_indexOf 0 = bk_X1_indexOf_0 := rfl
theorem bq_X1_indexOf_2 : me_bk cd_X1_indexOf 2 = bk_X1_indexOf_2 := rfl
theorem bq_X1_indexOf_32 : me_bk cd_X1_indexOf 32 = bk_X1_indexOf_32 := rfl
theorem bq_X1_indexOf_38 : me_bk cd_X1_indexOf 38 = bk_X1_indexOf_38 := rfl
set_option maxRecDepth 100000 in
theorem ck_X1_indexOf : cd_X1_indexOf.all (fun q => me_bck mt_nm RX1 cX1_indexOf 4 (some .int) [] 0 q.2 q.1) = true := by decide +kernel
set_option maxRecDepth 100000 in
theorem cl_X1_indexOf {l : Launch} {R : Room} {fr lo mc : Nat} {sp : me_P} (h : me_M l yX1_indexOf (.code yX1_indexOf cX1_indexOf 4 (some .int)) fr lo mc sp) (h1 : fr + 1 ≤ R.frames) (h2 : lo + 23 ≤ R.locals) : me_cal mt_nm l R 9 (mc, sp) := ⟨cX1_indexOf, 4, (some .int), fr, lo, h, List.mem_of_getElem? (i := 682) (by rfl), h1, by omega, List.mem_of_getElem? (i := 57) (by rfl), by decide, by decide⟩
def bk_X1_countClicksBefore_0 : List me_I := [(0, 0, 0, [], 1, 0, 0), (3, 3, 0, [], 1, 0, 0)]
def bk_X1_countClicksBefore_2 : List me_I := [(2, 3, 0, [], 1, 0, 0), (2, 0, 2, [], 1, 0, 0), (19, 1, 5, [], 3, 0, 205), (15, 27, 3, [], 3, 0, 0), (2, 0, 2, [], 1, 0, 0), (19, 1, 6, [], 3, 0, 206), (2, 3, 0, [], 1, 0, 0), (23, 0, 0, [], 1, 0, 0), (2, 1, 1, [], 1, 0, 0), (9, 0, 0, [], 1, 0, 0), (14, 27, 3, [], 3, 0, 0), (13, 3, 1, [], 3, 0, 0), (16, 2, 0, [], 3, 0, 0)]
def bk_X1_countClicksBefore_27 : List me_I := [(2, 3, 0, [], 1, 0, 0), (32, 0, 0, [], 1, 0, 0)]
def cd_X1_countClicksBefore : List (Nat × List me_I) := [(0, bk_X1_countClicksBefore_0), (2, bk_X1_countClicksBefore_2), (27, bk_X1_countClicksBefore_27)]
theorem bq_X1_countClicksBefore_0 : me_bk cd_X1_countClicksBefore 0 = bk_X1_countClicksBefore_0 := rfl
theorem bq_X1_countClicksBefore_2 : me_bk cd_X1_countClicksBefore 2 = bk_X1_countClicksBefore_2 := rfl
theorem bq_X1_countClicksBefore_27 : me_bk cd_X1_countClicksBefore 27 = bk_X1_countClicksBefore_27 := rfl
set_option maxRecDepth 100000 in
theorem ck_X1_countClicksBefore : cd_X1_countClicksBefore.all (fun q => me_bck mt_nm RX1 cX1_countClicksBefore 4 (some .int) [] 0 q.2 q.1) = true := by decide +kernel
set_option maxRecDepth 100000 in
theorem cl_X1_countClicksBefore {l : Launch} {R : Room} {fr lo mc : Nat} {sp : me_P} (h : me_M l yX1_countClicksBefore (.code yX1_countClicksBefore cX1_countClicksBefore 4 (some .int)) fr lo mc sp) (h1 : fr + 1 ≤ R.frames) (h2 : lo + 23 ≤ R.locals) : me_cal mt_nm l R 10 (mc, sp) := ⟨cX1_countClicksBefore, 4, (some .int), fr, lo, h, List.mem_of_getElem? (i := 712) (by rfl), h1, by omega, List.mem_of_getElem? (i := 57) (by rfl), by decide, by decide⟩
def bk_X1_clickFrom_0 : List me_I := [(2, 0, 2, [], 1, 0, 0), (2, 1, 1, [], 1, 0, 0), (29, 10, 1, [1, 710, 711], 3, 0, 709), (3, 3, 0, [], 1, 0, 0), (2, 3, 0, [], 1, 0, 0), (2, 0, 2, [], 1, 0, 0), (19, 1, 5, [], 3, 0, 205), (15, 23, 3, [], 3, 0, 0), (2, 0, 2, [], 1, 0, 0), (19, 1, 6, [], 3, 0, 206), (2, 3, 0, [], 1, 0, 0), (23, 0, 0, [], 1, 0, 0), (16, 26, 0, [], 3, 0, 0)]
def bk_X1_clickFrom_23 : List me_I := [(1, 9, 1, [], 3, 0, 713)]
def bk_X1_clickFrom_26 : List me_I := [(33, 0, 0, [], 1, 0, 0)]
def cd_X1_clickFrom : List (Nat × List me_I) := [(0, bk_X1_clickFrom_0), (23, bk_X1_clickFrom_23), (26, bk_X1_clickFrom_26)]
theorem bq_X1_clickFrom_0 : me_bk cd_X1_clickFrom 0 = bk_X1_clickFrom_0 := rfl
theorem bq_X1_clickFrom_23 : me_bk cd_X1_clickFrom 23 = bk_X1_clickFrom_23 := rfl
theorem bq_X1_clickFrom_26 : me_bk cd_X1_clickFrom 26 = bk_X1_clickFrom_26 := rfl
set_option maxRecDepth 100000 in
theorem ck_X1_clickFrom : cd_X1_clickFrom.all (fun q => me_bck mt_nm RX1 cX1_clickFrom 4 (some .long) [10] 0 q.2 q.1) = true := by decide +kernel
set_option maxRecDepth 100000 in
theorem cl_X1_clickFrom {l : Launch} {R : Room} {fr lo mc : Nat} {sp : me_P} (h : me_M l yX1_clickFrom (.code yX1_clickFrom cX1_clickFrom 4 (some .long)) fr lo mc sp) (h1 : fr + 1 ≤ R.frames) (h2 : lo + 23 ≤ R.locals) : me_cal mt_nm l R 11 (mc, sp) := ⟨cX1_clickFrom, 4, (some .long), fr, lo, h, List.mem_of_getElem? (i := 708) (by rfl), h1, by omega, List.mem_of_getElem? (i := 57) (by rfl), by decide, by decide⟩
def bk_X1_beatAt_0 : List me_I := [(0, 9, 1, [], 2, 0, 0), (3, 3, 0, [], 1, 0, 0), (0, 0, 0, [], 1, 0, 0), (3, 4, 0, [], 2, 0, 0)]
def bk_X1_beatAt_6 : List me_I := [(2, 4, 0, [], 2, 0, 0), (2, 0, 2, [], 1, 0, 0), (19, 1, 5, [], 3, 0, 205), (15, 50, 3, [], 3, 0, 0), (2, 1, 1, [], 1, 0, 0), (2, 0, 2, [], 1, 0, 0), (19, 1, 1, [], 3, 0, 196), (9, 0, 0, [], 1, 0, 0), (14, 50, 3, [], 3, 0, 0), (2, 0, 2, [], 1, 0, 0), (19, 1, 6, [], 3, 0, 206), (2, 4, 0, [], 2, 0, 0), (23, 0, 0, [], 1, 0, 0), (2, 1, 1, [], 1, 0, 0), (9, 0, 0, [], 1, 0, 0), (14, 50, 4, [], 3, 0, 0), (2, 0, 2, [], 1, 0, 0), (19, 1, 7, [], 3, 0, 207), (2, 4, 0, [], 2, 0, 0), (21, 0, 0, [], 1, 0, 0), (3, 3, 0, [], 1, 0, 0), (13, 4, 1, [], 3, 0, 0), (16, 6, 0, [], 3, 0, 0)]
def bk_X1_beatAt_50 : List me_I := [(2, 3, 0, [], 1, 0, 0), (32, 0, 0, [], 1, 0, 0)]
def cd_X1_beatAt : List (Nat × List me_I) := [(0, bk_X1_beatAt_0), (6, bk_X1_beatAt_6), (50, bk_X1_beatAt_50)]
theorem bq_X1_beatAt_0 : me_bk cd_X1_beatAt 0 = bk_X1_beatAt_0 := rfl
theorem bq_X1_beatAt_6 : me_bk cd_X1_beatAt 6 = bk_X1_beatAt_6 := rfl
theorem bq_X1_beatAt_50 : me_bk cd_X1_beatAt 50 = bk_X1_beatAt_50 := rfl
set_option maxRecDepth 100000 in
theorem ck_X1_beatAt : cd_X1_beatAt.all (fun q => me_bck mt_nm RX1 cX1_beatAt 5 (some .int) [] 0 q.2 q.1) = true := by decide +kernel
set_option maxRecDepth 100000 in
theorem cl_X1_beatAt {l : Launch} {R : Room} {fr lo mc : Nat} {sp : me_P} (h : me_M l yX1_beatAt (.code yX1_beatAt cX1_beatAt 5 (some .int)) fr lo mc sp) (h1 : fr + 1 ≤ R.frames) (h2 : lo + 24 ≤ R.locals) : me_cal mt_nm l R 12 (mc, sp) := ⟨cX1_beatAt, 5, (some .int), fr, lo, h, List.mem_of_getElem? (i := 697) (by rfl), h1, by omega, List.mem_of_getElem? (i := 57) (by rfl), by decide, by decide⟩
def bk_X1_countClicksWith_0 : List me_I := [(0, 0, 0, [], 1, 0, 0), (3, 2, 0, [], 1, 0, 0), (0, 0, 0, [], 1, 0, 0), (3, 3, 0, [], 1, 0, 0), (0, 0, 0, [], 1, 0, 0), (3, 4, 0, [], 2, 0, 0)]
def bk_X1_countClicksWith_7 : List me_I := [(2, 4, 0, [], 2, 0, 0), (2, 0, 2, [], 1, 0, 0), (19, 1, 5, [], 3, 0, 205), (15, 81, 3, [], 3, 0, 0)]
def bk_X1_countClicksWith_16 : List me_I := [(2, 3, 0, [], 1, 0, 0), (2, 1, 2, [], 1, 0, 0), (19, 1, 5, [], 3, 0, 205), (15, 47, 3, [], 3, 0, 0), (2, 1, 2, [], 1, 0, 0), (19, 1, 6, [], 3, 0, 206), (2, 3, 0, [], 1, 0, 0), (23, 0, 0, [], 1, 0, 0), (2, 0, 2, [], 1, 0, 0), (19, 1, 6, [], 3, 0, 206), (2, 4, 0, [], 2, 0, 0), (23, 0, 0, [], 1, 0, 0), (9, 0, 0, [], 1, 0, 0), (14, 47, 3, [], 3, 0, 0), (13, 3, 1, [], 3, 0, 0), (16, 16, 0, [], 3, 0, 0)]
def bk_X1_countClicksWith_47 : List me_I := [(2, 3, 0, [], 1, 0, 0), (2, 1, 2, [], 1, 0, 0), (19, 1, 5, [], 3, 0, 205), (15, 75, 3, [], 3, 0, 0), (2, 1, 2, [], 1, 0, 0), (19, 1, 6, [], 3, 0, 206), (2, 3, 0, [], 1, 0, 0), (23, 0, 0, [], 1, 0, 0), (2, 0, 2, [], 1, 0, 0), (19, 1, 6, [], 3, 0, 206), (2, 4, 0, [], 2, 0, 0), (23, 0, 0, [], 1, 0, 0), (9, 0, 0, [], 1, 0, 0), (14, 75, 1, [], 3, 0, 0), (13, 2, 1, [], 3, 0, 0)]
def bk_X1_countClicksWith_75 : List me_I := [(13, 4, 1, [], 3, 0, 0), (16, 7, 0, [], 3, 0, 0)]
def bk_X1_countClicksWith_81 : List me_I := [(2, 2, 0, [], 1, 0, 0), (32, 0, 0, [], 1, 0, 0)]
def cd_X1_countClicksWith : List (Nat × List me_I) := [(0, bk_X1_countClicksWith_0), (7, bk_X1_countClicksWith_7), (16, bk_X1_countClicksWith_16), (47, bk_X1_countClicksWith_47), (75, bk_X1_countClicksWith_75), (81, bk_X1_countClicksWith_81)]
theorem bq_X1_countClicksWith_0 : me_bk cd_X1_countClicksWith 0 = bk_X1_countClicksWith_0 := rfl
theorem bq_X1_countClicksWith_7 : me_bk cd_X1_countClicksWith 7 = bk_X1_countClicksWith_7 := rfl
theorem bq_X1_countClicksWith_16 : me_bk cd_X1_countClicksWith 16 = bk_X1_countClicksWith_16 := rfl
theorem bq_X1_countClicksWith_47 : me_bk cd_X1_countClicksWith 47 = bk_X1_countClicksWith_47 := rfl
theorem bq_X1_countClicksWith_75 : me_bk cd_X1_countClicksWith 75 = bk_X1_countClicksWith_75 := rfl
theorem bq_X1_countClicksWith_81 : me_bk cd_X1_countClicksWith 81 = bk_X1_countClicksWith_81 := rfl
set_option maxRecDepth 100000 in
theorem ck_X1_countClicksWith : cd_X1_countClicksWith.all (fun q => me_bck mt_nm RX1 cX1_countClicksWith 5 (some .int) [] 0 q.2 q.1) = true := by decide +kernel
set_option maxRecDepth 100000 in
theorem cl_X1_countClicksWith {l : Launch} {R : Room} {fr lo mc : Nat} {sp : me_P} (h : me_M l yX1_countClicksWith (.code yX1_countClicksWith cX1_countClicksWith 5 (some .int)) fr lo mc sp) (h1 : fr + 1 ≤ R.frames) (h2 : lo + 24 ≤ R.locals) : me_cal mt_nm l R 13 (mc, sp) := ⟨cX1_countClicksWith, 5, (some .int), fr, lo, h, List.mem_of_getElem? (i := 753) (by rfl), h1, by omega, List.mem_of_getElem? (i := 57) (by rfl), by decide, by decide⟩
def bk_X1_partingFrom_0 : List me_I := [(2, 0, 2, [], 1, 0, 0), (19, 1, 0, [], 3, 0, 193), (2, 1, 2, [], 1, 0, 0), (19, 1, 0, [], 3, 0, 193), (37, 0, 0, [], 3, 0, 765), (3, 2, 0, [], 1, 0, 0), (0, 0, 0, [], 1, 0, 0), (3, 3, 0, [], 1, 0, 0)]
def bk_X1_partingFrom_14 : List me_I := [(2, 3, 0, [], 1, 0, 0), (2, 2, 0, [], 1, 0, 0), (15, 37, 3, [], 3, 0, 0), (2, 0, 2, [], 1, 0, 0), (2, 3, 0, [], 1, 0, 0), (2, 1, 2, [], 1, 0, 0), (2, 3, 0, [], 1, 0, 0), (29, 16, 3, [1, 768, 16], 3, 0, 766), (14, 31, 1, [], 3, 0, 0), (2, 3, 0, [], 1, 0, 0), (32, 0, 0, [], 1, 0, 0)]
def bk_X1_partingFrom_31 : List me_I := [(13, 3, 1, [], 3, 0, 0), (16, 14, 0, [], 3, 0, 0)]
def bk_X1_partingFrom_37 : List me_I := [(2, 0, 2, [], 1, 0, 0), (19, 1, 0, [], 3, 0, 193), (2, 1, 2, [], 1, 0, 0), (19, 1, 0, [], 3, 0, 193), (15, 53, 1, [], 3, 0, 0), (0, 9, 1, [], 2, 0, 0), (16, 54, 0, [], 3, 0, 0)]
def bk_X1_partingFrom_53 : List me_I := [(2, 2, 0, [], 1, 0, 0)]
def bk_X1_partingFrom_54 : List me_I := [(32, 0, 0, [], 1, 0, 0)]
def cd_X1_partingFrom : List (Nat × List me_I) := [(0, bk_X1_partingFrom_0), (14, bk_X1_partingFrom_14), (31, bk_X1_partingFrom_31), (37, bk_X1_partingFrom_37), (53, bk_X1_partingFrom_53), (54, bk_X1_partingFrom_54)]
theorem bq_X1_partingFrom_0 : me_bk cd_X1_partingFrom 0 = bk_X1_partingFrom_0 := rfl
theorem bq_X1_partingFrom_14 : me_bk cd_X1_partingFrom 14 = bk_X1_partingFrom_14 := rfl
theorem bq_X1_partingFrom_31 : me_bk cd_X1_partingFrom 31 = bk_X1_partingFrom_31 := rfl
theorem bq_X1_partingFrom_37 : me_bk cd_X1_partingFrom 37 = bk_X1_partingFrom_37 := rfl
theorem bq_X1_partingFrom_53 : me_bk cd_X1_partingFrom 53 = bk_X1_partingFrom_53 := rfl
theorem bq_X1_partingFrom_54 : me_bk cd_X1_partingFrom 54 = bk_X1_partingFrom_54 := rfl
set_option maxRecDepth 100000 in
theorem ck_X1_partingFrom : cd_X1_partingFrom.all (fun q => me_bck mt_nm RX1 cX1_partingFrom 4 (some .int) [16] 0 q.2 q.1) = true := by decide +kernel
set_option maxRecDepth 100000 in
theorem cl_X1_partingFrom {l : Launch} {R : Room} {fr lo mc : Nat} {sp : me_P} (h : me_M l yX1_partingFrom (.code yX1_partingFrom cX1_partingFrom 4 (some .int)) fr lo mc sp) (h1 : fr + 1 ≤ R.frames) (h2 : lo + 23 ≤ R.locals) : me_cal mt_nm l R 14 (mc, sp) := ⟨cX1_partingFrom, 4, (some .int), fr, lo, h, List.mem_of_getElem? (i := 764) (by rfl), h1, by omega, List.mem_of_getElem? (i := 57) (by rfl), by decide, by decide⟩
def bk_X1_meetingWith_0 : List me_I := [(0, 0, 0, [], 1, 0, 0), (3, 2, 0, [], 1, 0, 0), (0, 0, 0, [], 1, 0, 0), (3, 3, 0, [], 1, 0, 0)]
def bk_X1_meetingWith_4 : List me_I := [(2, 3, 0, [], 1, 0, 0), (2, 0, 2, [], 1, 0, 0), (19, 1, 0, [], 3, 0, 193), (15, 94, 3, [], 3, 0, 0)]
def bk_X1_meetingWith_12 : List me_I := [(2, 2, 0, [], 1, 0, 0), (2, 1, 2, [], 1, 0, 0), (19, 1, 0, [], 3, 0, 193), (15, 42, 3, [], 3, 0, 0), (2, 1, 2, [], 1, 0, 0), (19, 1, 4, [], 3, 0, 203), (2, 2, 0, [], 1, 0, 0), (23, 0, 0, [], 1, 0, 0), (2, 0, 2, [], 1, 0, 0), (19, 1, 4, [], 3, 0, 203), (2, 3, 0, [], 1, 0, 0), (23, 0, 0, [], 1, 0, 0), (9, 0, 0, [], 1, 0, 0), (14, 42, 3, [], 3, 0, 0), (13, 2, 1, [], 3, 0, 0), (16, 12, 0, [], 3, 0, 0)]
def bk_X1_meetingWith_42 : List me_I := [(2, 2, 0, [], 1, 0, 0), (2, 1, 2, [], 1, 0, 0), (19, 1, 0, [], 3, 0, 193), (15, 88, 3, [], 3, 0, 0), (2, 2, 0, [], 1, 0, 0), (2, 3, 0, [], 1, 0, 0), (15, 88, 0, [], 3, 0, 0), (2, 1, 2, [], 1, 0, 0), (19, 1, 4, [], 3, 0, 203), (2, 2, 0, [], 1, 0, 0), (23, 0, 0, [], 1, 0, 0), (2, 0, 2, [], 1, 0, 0), (19, 1, 4, [], 3, 0, 203), (2, 3, 0, [], 1, 0, 0), (23, 0, 0, [], 1, 0, 0), (9, 0, 0, [], 1, 0, 0), (14, 88, 1, [], 3, 0, 0), (2, 0, 2, [], 1, 0, 0), (2, 3, 0, [], 1, 0, 0), (2, 1, 2, [], 1, 0, 0), (2, 2, 0, [], 1, 0, 0), (29, 16, 3, [1, 768, 16], 3, 0, 766), (14, 88, 0, [], 3, 0, 0), (2, 0, 2, [], 1, 0, 0), (19, 1, 4, [], 3, 0, 203), (2, 3, 0, [], 1, 0, 0), (23, 0, 0, [], 1, 0, 0), (33, 0, 0, [], 1, 0, 0)]
def bk_X1_meetingWith_88 : List me_I := [(13, 3, 1, [], 3, 0, 0), (16, 4, 0, [], 3, 0, 0)]
def bk_X1_meetingWith_94 : List me_I := [(1, 9, 1, [], 3, 0, 713), (33, 0, 0, [], 1, 0, 0)]
def cd_X1_meetingWith : List (Nat × List me_I) := [(0, bk_X1_meetingWith_0), (4, bk_X1_meetingWith_4), (12, bk_X1_meetingWith_12), (42, bk_X1_meetingWith_42), (88, bk_X1_meetingWith_88), (94, bk_X1_meetingWith_94)]
theorem bq_X1_meetingWith_0 : me_bk cd_X1_meetingWith 0 = bk_X1_meetingWith_0 := rfl
theorem bq_X1_meetingWith_4 : me_bk cd_X1_meetingWith 4 = bk_X1_meetingWith_4 := rfl
theorem bq_X1_meetingWith_12 : me_bk cd_X1_meetingWith 12 = bk_X1_meetingWith_12 := rfl
theorem bq_X1_meetingWith_42 : me_bk cd_X1_meetingWith 42 = bk_X1_meetingWith_42 := rfl
theorem bq_X1_meetingWith_88 : me_bk cd_X1_meetingWith 88 = bk_X1_meetingWith_88 := rfl
theorem bq_X1_meetingWith_94 : me_bk cd_X1_meetingWith 94 = bk_X1_meetingWith_94 := rfl
set_option maxRecDepth 100000 in
theorem ck_X1_meetingWith : cd_X1_meetingWith.all (fun q => me_bck mt_nm RX1 cX1_meetingWith 4 (some .long) [16] 0 q.2 q.1) = true := by decide +kernel
set_option maxRecDepth 100000 in
theorem cl_X1_meetingWith {l : Launch} {R : Room} {fr lo mc : Nat} {sp : me_P} (h : me_M l yX1_meetingWith (.code yX1_meetingWith cX1_meetingWith 4 (some .long)) fr lo mc sp) (h1 : fr + 1 ≤ R.frames) (h2 : lo + 23 ≤ R.locals) : me_cal mt_nm l R 15 (mc, sp) := ⟨cX1_meetingWith, 4, (some .long), fr, lo, h, List.mem_of_getElem? (i := 780) (by rfl), h1, by omega, List.mem_of_getElem? (i := 57) (by rfl), by decide, by decide⟩
def bk_X1_isSame_0 : List me_I := [(2, 0, 2, [], 1, 0, 0), (19, 1, 2, [], 3, 0, 199), (2, 1, 0, [], 1, 0, 0), (21, 0, 0, [], 1, 0, 0), (2, 2, 2, [], 1, 0, 0), (19, 1, 2, [], 3, 0, 199), (2, 3, 0, [], 1, 0, 0), (21, 0, 0, [], 1, 0, 0), (15, 34, 1, [], 3, 0, 0), (2, 0, 2, [], 1, 0, 0), (19, 1, 3, [], 3, 0, 201), (2, 1, 0, [], 1, 0, 0), (21, 0, 0, [], 1, 0, 0), (2, 2, 2, [], 1, 0, 0), (19, 1, 3, [], 3, 0, 201), (2, 3, 0, [], 1, 0, 0), (21, 0, 0, [], 1, 0, 0), (15, 34, 1, [], 3, 0, 0), (0, 1, 0, [], 1, 0, 0), (16, 35, 0, [], 3, 0, 0)]
def bk_X1_isSame_34 : List me_I := [(0, 0, 0, [], 1, 0, 0)]
def bk_X1_isSame_35 : List me_I := [(34, 0, 0, [], 1, 0, 0)]
def cd_X1_isSame : List (Nat × List me_I) := [(0, bk_X1_isSame_0), (34, bk_X1_isSame_34), (35, bk_X1_isSame_35)]
theorem bq_X1_isSame_0 : me_bk cd_X1_isSame 0 = bk_X1_isSame_0 := rfl
theorem bq_X1_isSame_34 : me_bk cd_X1_isSame 34 = bk_X1_isSame_34 := rfl
theorem bq_X1_isSame_35 : me_bk cd_X1_isSame 35 = bk_X1_isSame_35 := rfl
set_option maxRecDepth 100000 in
theorem ck_X1_isSame : cd_X1_isSame.all (fun q => me_bck mt_nm RX1 cX1_isSame 4 (some .boolean) [] 0 q.2 q.1) = true := by decide +kernel
set_option maxRecDepth 100000 in
theorem cl_X1_isSame {l : Launch} {R : Room} {fr lo mc : Nat} {sp : me_P} (h : me_M l yX1_isSame (.code yX1_isSame cX1_isSame 4 (some .boolean)) fr lo mc sp) (h1 : fr + 1 ≤ R.frames) (h2 : lo + 23 ≤ R.locals) : me_cal mt_nm l R 16 (mc, sp) := ⟨cX1_isSame, 4, (some .boolean), fr, lo, h, List.mem_of_getElem? (i := 769) (by rfl), h1, by omega, List.mem_of_getElem? (i := 57) (by rfl), by decide, by decide⟩
def bk_X2_withoutLowest_0 : List me_I := [(2, 0, 1, [], 1, 0, 0), (3, 3, 1, [], 1, 0, 0), (0, 0, 0, [], 1, 0, 0), (3, 5, 0, [], 2, 0, 0)]
def bk_X2_withoutLowest_5 : List me_I := [(2, 5, 0, [], 2, 0, 0), (2, 2, 0, [], 1, 0, 0), (15, 23, 3, [], 3, 0, 0), (2, 3, 1, [], 1, 0, 0), (1, 100000, 0, [], 3, 0, 936), (5, 8, 0, [], 1, 0, 0), (3, 3, 1, [], 1, 0, 0), (13, 5, 1, [], 3, 0, 0), (16, 5, 0, [], 3, 0, 0)]
def bk_X2_withoutLowest_23 : List me_I := [(2, 3, 1, [], 1, 0, 0), (33, 0, 0, [], 1, 0, 0)]
def cd_X2_withoutLowest : List (Nat × List me_I) := [(0, bk_X2_withoutLowest_0), (5, bk_X2_withoutLowest_5), (23, bk_X2_withoutLowest_23)]
theorem bq_X2_withoutLowest_0 : me_bk cd_X2_withoutLowest 0 = bk_X2_withoutLowest_0 := rfl
theorem bq_X2_withoutLowest_5 : me_bk cd_X2_withoutLowest 5 = bk_X2_withoutLowest_5 := rfl
theorem bq_X2_withoutLowest_23 : me_bk cd_X2_withoutLowest 23 = bk_X2_withoutLowest_23 := rfl
set_option maxRecDepth 100000 in
theorem ck_X2_withoutLowest : cd_X2_withoutLowest.all (fun q => me_bck mt_nm RX2 cX2_withoutLowest 6 (some .long) [] 0 q.2 q.1) = true := by decide +kernel
set_option maxRecDepth 100000 in
theorem cl_X2_withoutLowest {l : Launch} {R : Room} {fr lo mc : Nat} {sp : me_P} (h : me_M l yX2_withoutLowest (.code yX2_withoutLowest cX2_withoutLowest 6 (some .long)) fr lo mc sp) (h1 : fr + 1 ≤ R.frames) (h2 : lo + 25 ≤ R.locals) : me_cal mt_nm l R 18 (mc, sp) := ⟨cX2_withoutLowest, 6, (some .long), fr, lo, h, List.mem_of_getElem? (i := 935) (by rfl), h1, by omega, List.mem_of_getElem? (i := 59) (by rfl), by decide, by decide⟩
def bk_X2_beginFrom_0 : List me_I := [(2, 0, 2, [], 1, 0, 0), (19, 2, 0, [], 3, 0, 253), (2, 1, 2, [], 1, 0, 0), (29, 31, 1, [3, 488, 489], 3, 0, 942), (31, 0, 0, [], 1, 0, 0)]
def cd_X2_beginFrom : List (Nat × List me_I) := [(0, bk_X2_beginFrom_0)]
theorem bq_X2_beginFrom_0 : me_bk cd_X2_beginFrom 0 = bk_X2_beginFrom_0 := rfl
set_option maxRecDepth 100000 in
theorem ck_X2_beginFrom : cd_X2_beginFrom.all (fun q => me_bck mt_nm RX2 cX2_beginFrom 2 none [31] 0 q.2 q.1) = true := by decide +kernel
set_option maxRecDepth 100000 in
theorem cl_X2_beginFrom {l : Launch} {R : Room} {fr lo mc : Nat} {sp : me_P} (h : me_M l yX2_beginFrom (.code yX2_beginFrom cX2_beginFrom 2 none) fr lo mc sp) (h1 : fr + 1 ≤ R.frames) (h2 : lo + 21 ≤ R.locals) : me_cal mt_nm l R 19 (mc, sp) := ⟨cX2_beginFrom, 2, none, fr, lo, h, List.mem_of_getElem? (i := 941) (by rfl), h1, by omega, List.mem_of_getElem? (i := 59) (by rfl), by decide, by decide⟩
def bk_X2_succeeds_0 : List me_I := [(2, 1, 1, [], 1, 0, 0), (1, 100000, 0, [], 3, 0, 936), (5, 9, 0, [], 1, 0, 0), (8, 0, 0, [], 1, 0, 0), (3, 3, 0, [], 1, 0, 0), (2, 0, 2, [], 1, 0, 0), (2, 3, 0, [], 1, 0, 0), (0, 1000, 0, [], 3, 0, 0), (4, 8, 0, [], 1, 0, 0), (0, 10, 0, [], 2, 0, 0), (4, 9, 0, [], 1, 0, 0), (20, 2, 3, [], 3, 0, 256), (2, 0, 2, [], 1, 0, 0), (2, 3, 0, [], 1, 0, 0), (0, 100, 0, [], 2, 0, 0), (4, 8, 0, [], 1, 0, 0), (0, 10, 0, [], 2, 0, 0), (4, 9, 0, [], 1, 0, 0), (20, 2, 4, [], 3, 0, 257), (2, 0, 2, [], 1, 0, 0), (2, 3, 0, [], 1, 0, 0), (0, 10, 0, [], 2, 0, 0), (4, 8, 0, [], 1, 0, 0), (0, 10, 0, [], 2, 0, 0), (4, 9, 0, [], 1, 0, 0), (20, 2, 5, [], 3, 0, 258), (2, 0, 2, [], 1, 0, 0), (2, 3, 0, [], 1, 0, 0), (0, 10, 0, [], 2, 0, 0), (4, 9, 0, [], 1, 0, 0), (20, 2, 6, [], 3, 0, 259), (2, 3, 0, [], 1, 0, 0), (0, 10000, 0, [], 3, 0, 0), (4, 8, 0, [], 1, 0, 0), (17, 1, 0, [212, 104, 109, 141, 158, 175, 192, 197, 202, 207], 50, 0, 0)]
def bk_X2_succeeds_104 : List me_I := [(2, 0, 2, [], 1, 0, 0), (29, 21, 0, [2, 949, 18], 3, 0, 947), (34, 0, 0, [], 1, 0, 0)]
def bk_X2_succeeds_109 : List me_I := [(2, 0, 2, [], 1, 0, 0), (0, 10, 0, [], 2, 0, 0), (2, 0, 2, [], 1, 0, 0), (19, 2, 3, [], 3, 0, 256), (4, 2, 0, [], 1, 0, 0), (2, 0, 2, [], 1, 0, 0), (19, 2, 4, [], 3, 0, 257), (4, 0, 0, [], 1, 0, 0), (0, 10, 0, [], 2, 0, 0), (0, 10, 0, [], 2, 0, 0), (2, 0, 2, [], 1, 0, 0), (19, 2, 5, [], 3, 0, 258), (4, 2, 0, [], 1, 0, 0), (2, 0, 2, [], 1, 0, 0), (19, 2, 6, [], 3, 0, 259), (4, 0, 0, [], 1, 0, 0), (4, 2, 0, [], 1, 0, 0), (29, 22, 2, [2, 955, 19], 3, 0, 953), (34, 0, 0, [], 1, 0, 0)]
def bk_X2_succeeds_141 : List me_I := [(2, 0, 2, [], 1, 0, 0), (0, 10, 0, [], 2, 0, 0), (2, 0, 2, [], 1, 0, 0), (19, 2, 3, [], 3, 0, 256), (4, 2, 0, [], 1, 0, 0), (2, 0, 2, [], 1, 0, 0), (19, 2, 4, [], 3, 0, 257), (4, 0, 0, [], 1, 0, 0), (29, 23, 1, [2, 961, 20], 3, 0, 959), (34, 0, 0, [], 1, 0, 0)]
def bk_X2_succeeds_158 : List me_I := [(2, 0, 2, [], 1, 0, 0), (0, 10, 0, [], 2, 0, 0), (2, 0, 2, [], 1, 0, 0), (19, 2, 3, [], 3, 0, 256), (4, 2, 0, [], 1, 0, 0), (2, 0, 2, [], 1, 0, 0), (19, 2, 4, [], 3, 0, 257), (4, 0, 0, [], 1, 0, 0), (29, 24, 1, [2, 968, 21], 3, 0, 966), (34, 0, 0, [], 1, 0, 0)]
def bk_X2_succeeds_175 : List me_I := [(2, 0, 2, [], 1, 0, 0), (0, 10, 0, [], 2, 0, 0), (2, 0, 2, [], 1, 0, 0), (19, 2, 4, [], 3, 0, 257), (4, 2, 0, [], 1, 0, 0), (2, 0, 2, [], 1, 0, 0), (19, 2, 5, [], 3, 0, 258), (4, 0, 0, [], 1, 0, 0), (29, 25, 1, [2, 974, 22], 3, 0, 972), (34, 0, 0, [], 1, 0, 0)]
def bk_X2_succeeds_192 : List me_I := [(2, 0, 2, [], 1, 0, 0), (29, 26, 0, [2, 980, 23], 3, 0, 978), (34, 0, 0, [], 1, 0, 0)]
def bk_X2_succeeds_197 : List me_I := [(2, 0, 2, [], 1, 0, 0), (29, 27, 0, [2, 985, 24], 3, 0, 983), (34, 0, 0, [], 1, 0, 0)]
def bk_X2_succeeds_202 : List me_I := [(2, 0, 2, [], 1, 0, 0), (29, 28, 0, [2, 990, 25], 3, 0, 988), (34, 0, 0, [], 1, 0, 0)]
def bk_X2_succeeds_207 : List me_I := [(2, 0, 2, [], 1, 0, 0), (29, 29, 0, [2, 996, 26], 3, 0, 994), (34, 0, 0, [], 1, 0, 0)]
def bk_X2_succeeds_212 : List me_I := [(0, 0, 0, [], 1, 0, 0), (34, 0, 0, [], 1, 0, 0)]
def cd_X2_succeeds : List (Nat × List me_I) := [(0, bk_X2_succeeds_0), (104, bk_X2_succeeds_104), (109, bk_X2_succeeds_109), (141, bk_X2_succeeds_141), (158, bk_X2_succeeds_158), (175, bk_X2_succeeds_175), (192, bk_X2_succeeds_192), (197, bk_X2_succeeds_197), (202, bk_X2_succeeds_202), (207, bk_X2_succeeds_207), (212, bk_X2_succeeds_212)]
theorem bq_X2_succeeds_0 : me_bk cd_X2_succeeds 0 = bk_X2_succeeds_0 := rfl
theorem bq_X2_succeeds_104 : me_bk cd_X2_succeeds 104 = bk_X2_succeeds_104 := rfl
theorem bq_X2_succeeds_109 : me_bk cd_X2_succeeds 109 = bk_X2_succeeds_109 := rfl
theorem bq_X2_succeeds_141 : me_bk cd_X2_succeeds 141 = bk_X2_succeeds_141 := rfl
theorem bq_X2_succeeds_158 : me_bk cd_X2_succeeds 158 = bk_X2_succeeds_158 := rfl
theorem bq_X2_succeeds_175 : me_bk cd_X2_succeeds 175 = bk_X2_succeeds_175 := rfl
theorem bq_X2_succeeds_192 : me_bk cd_X2_succeeds 192 = bk_X2_succeeds_192 := rfl
theorem bq_X2_succeeds_197 : me_bk cd_X2_succeeds 197 = bk_X2_succeeds_197 := rfl
theorem bq_X2_succeeds_202 : me_bk cd_X2_succeeds 202 = bk_X2_succeeds_202 := rfl
theorem bq_X2_succeeds_207 : me_bk cd_X2_succeeds 207 = bk_X2_succeeds_207 := rfl
theorem bq_X2_succeeds_212 : me_bk cd_X2_succeeds 212 = bk_X2_succeeds_212 := rfl
set_option maxRecDepth 100000 in
theorem ck_X2_succeeds : cd_X2_succeeds.all (fun q => me_bck mt_nm RX2 cX2_succeeds 4 (some .boolean) [21, 22, 23, 24, 25, 26, 27, 28, 29] 0 q.2 q.1) = true := by decide +kernel
set_option maxRecDepth 100000 in
theorem cl_X2_succeeds {l : Launch} {R : Room} {fr lo mc : Nat} {sp : me_P} (h : me_M l yX2_succeeds (.code yX2_succeeds cX2_succeeds 4 (some .boolean)) fr lo mc sp) (h1 : fr + 1 ≤ R.frames) (h2 : lo + 23 ≤ R.locals) : me_cal mt_nm l R 20 (mc, sp) := ⟨cX2_succeeds, 4, (some .boolean), fr, lo, h, List.mem_of_getElem? (i := 946) (by rfl), h1, by omega, List.mem_of_getElem? (i := 59) (by rfl), by decide, by decide⟩
def bk_X2_addsBar_0 : List me_I := [(2, 0, 2, [], 1, 0, 0), (19, 2, 3, [], 3, 0, 256), (14, 43, 1, [], 3, 0, 0), (2, 0, 2, [], 1, 0, 0), (19, 2, 4, [], 3, 0, 257), (14, 43, 1, [], 3, 0, 0), (2, 0, 2, [], 1, 0, 0), (19, 2, 5, [], 3, 0, 258), (14, 43, 1, [], 3, 0, 0), (2, 0, 2, [], 1, 0, 0), (19, 2, 6, [], 3, 0, 259), (41, 118, 1, [789], 3, 0, 951), (14, 43, 0, [], 3, 0, 0), (2, 0, 2, [], 1, 0, 0), (19, 2, 0, [], 3, 0, 253), (19, 3, 0, [], 3, 0, 94), (0, 24, 0, [], 2, 0, 0), (15, 45, 2, [], 3, 0, 0)]
def bk_X2_addsBar_43 : List me_I := [(0, 0, 0, [], 1, 0, 0), (34, 0, 0, [], 1, 0, 0)]
def bk_X2_addsBar_45 : List me_I := [(2, 0, 2, [], 1, 0, 0), (19, 2, 0, [], 3, 0, 253), (2, 0, 2, [], 1, 0, 0), (19, 2, 6, [], 3, 0, 259), (29, 49, 1, [3, 342, 343], 3, 0, 952), (0, 1, 0, [], 1, 0, 0), (34, 0, 0, [], 1, 0, 0)]
def cd_X2_addsBar : List (Nat × List me_I) := [(0, bk_X2_addsBar_0), (43, bk_X2_addsBar_43), (45, bk_X2_addsBar_45)]
theorem bq_X2_addsBar_0 : me_bk cd_X2_addsBar 0 = bk_X2_addsBar_0 := rfl
theorem bq_X2_addsBar_43 : me_bk cd_X2_addsBar 43 = bk_X2_addsBar_43 := rfl
theorem bq_X2_addsBar_45 : me_bk cd_X2_addsBar 45 = bk_X2_addsBar_45 := rfl
set_option maxRecDepth 100000 in
theorem ck_X2_addsBar : cd_X2_addsBar.all (fun q => me_bck mt_nm RX2 cX2_addsBar 1 (some .boolean) [49, 118] 0 q.2 q.1) = true := by decide +kernel
set_option maxRecDepth 100000 in
theorem cl_X2_addsBar {l : Launch} {R : Room} {fr lo mc : Nat} {sp : me_P} (h : me_M l yX2_addsBar (.code yX2_addsBar cX2_addsBar 1 (some .boolean)) fr lo mc sp) (h1 : fr + 1 ≤ R.frames) (h2 : lo + 20 ≤ R.locals) : me_cal mt_nm l R 21 (mc, sp) := ⟨cX2_addsBar, 1, (some .boolean), fr, lo, h, List.mem_of_getElem? (i := 950) (by rfl), h1, by omega, List.mem_of_getElem? (i := 59) (by rfl), by decide, by decide⟩
def bk_X2_marksTempo_0 : List me_I := [(2, 0, 2, [], 1, 0, 0), (19, 2, 0, [], 3, 0, 253), (2, 1, 0, [], 1, 0, 0), (29, 33, 1, [3, 541, 542], 3, 0, 957), (14, 18, 0, [], 3, 0, 0), (2, 2, 0, [], 1, 0, 0), (41, 120, 1, [807], 3, 0, 958), (14, 20, 1, [], 3, 0, 0)]
def bk_X2_marksTempo_18 : List me_I := [(0, 0, 0, [], 1, 0, 0), (34, 0, 0, [], 1, 0, 0)]
def bk_X2_marksTempo_20 : List me_I := [(2, 0, 2, [], 1, 0, 0), (19, 2, 0, [], 3, 0, 253), (19, 3, 3, [], 3, 0, 105), (2, 1, 0, [], 1, 0, 0), (2, 2, 0, [], 1, 0, 0), (22, 0, 0, [], 1, 0, 0), (0, 1, 0, [], 1, 0, 0), (34, 0, 0, [], 1, 0, 0)]
def cd_X2_marksTempo : List (Nat × List me_I) := [(0, bk_X2_marksTempo_0), (18, bk_X2_marksTempo_18), (20, bk_X2_marksTempo_20)]
theorem bq_X2_marksTempo_0 : me_bk cd_X2_marksTempo 0 = bk_X2_marksTempo_0 := rfl
theorem bq_X2_marksTempo_18 : me_bk cd_X2_marksTempo 18 = bk_X2_marksTempo_18 := rfl
theorem bq_X2_marksTempo_20 : me_bk cd_X2_marksTempo 20 = bk_X2_marksTempo_20 := rfl
set_option maxRecDepth 100000 in
theorem ck_X2_marksTempo : cd_X2_marksTempo.all (fun q => me_bck mt_nm RX2 cX2_marksTempo 3 (some .boolean) [33, 120] 0 q.2 q.1) = true := by decide +kernel
set_option maxRecDepth 100000 in
theorem cl_X2_marksTempo {l : Launch} {R : Room} {fr lo mc : Nat} {sp : me_P} (h : me_M l yX2_marksTempo (.code yX2_marksTempo cX2_marksTempo 3 (some .boolean)) fr lo mc sp) (h1 : fr + 1 ≤ R.frames) (h2 : lo + 22 ≤ R.locals) : me_cal mt_nm l R 22 (mc, sp) := ⟨cX2_marksTempo, 3, (some .boolean), fr, lo, h, List.mem_of_getElem? (i := 956) (by rfl), h1, by omega, List.mem_of_getElem? (i := 59) (by rfl), by decide, by decide⟩
def bk_X2_stretches_0 : List me_I := [(2, 0, 2, [], 1, 0, 0), (19, 2, 0, [], 3, 0, 253), (2, 1, 0, [], 1, 0, 0), (29, 33, 1, [3, 541, 542], 3, 0, 957), (14, 36, 0, [], 3, 0, 0), (2, 0, 2, [], 1, 0, 0), (19, 2, 0, [], 3, 0, 253), (2, 1, 0, [], 1, 0, 0), (2, 0, 2, [], 1, 0, 0), (19, 2, 5, [], 3, 0, 258), (29, 35, 2, [3, 585, 586], 3, 0, 963), (14, 36, 0, [], 3, 0, 0), (2, 0, 2, [], 1, 0, 0), (19, 2, 6, [], 3, 0, 259), (41, 119, 1, [818], 3, 0, 964), (14, 38, 1, [], 3, 0, 0)]
def bk_X2_stretches_36 : List me_I := [(0, 0, 0, [], 1, 0, 0), (34, 0, 0, [], 1, 0, 0)]
def bk_X2_stretches_38 : List me_I := [(2, 0, 2, [], 1, 0, 0), (19, 2, 0, [], 3, 0, 253), (2, 1, 0, [], 1, 0, 0), (2, 0, 2, [], 1, 0, 0), (19, 2, 5, [], 3, 0, 258), (2, 0, 2, [], 1, 0, 0), (19, 2, 6, [], 3, 0, 259), (29, 50, 3, [3, 346, 347], 3, 0, 965), (0, 1, 0, [], 1, 0, 0), (34, 0, 0, [], 1, 0, 0)]
def cd_X2_stretches : List (Nat × List me_I) := [(0, bk_X2_stretches_0), (36, bk_X2_stretches_36), (38, bk_X2_stretches_38)]
theorem bq_X2_stretches_0 : me_bk cd_X2_stretches 0 = bk_X2_stretches_0 := rfl
theorem bq_X2_stretches_36 : me_bk cd_X2_stretches 36 = bk_X2_stretches_36 := rfl
theorem bq_X2_stretches_38 : me_bk cd_X2_stretches 38 = bk_X2_stretches_38 := rfl
set_option maxRecDepth 100000 in
theorem ck_X2_stretches : cd_X2_stretches.all (fun q => me_bck mt_nm RX2 cX2_stretches 2 (some .boolean) [33, 35, 50, 119] 0 q.2 q.1) = true := by decide +kernel
set_option maxRecDepth 100000 in
theorem cl_X2_stretches {l : Launch} {R : Room} {fr lo mc : Nat} {sp : me_P} (h : me_M l yX2_stretches (.code yX2_stretches cX2_stretches 2 (some .boolean)) fr lo mc sp) (h1 : fr + 1 ≤ R.frames) (h2 : lo + 21 ≤ R.locals) : me_cal mt_nm l R 23 (mc, sp) := ⟨cX2_stretches, 2, (some .boolean), fr, lo, h, List.mem_of_getElem? (i := 962) (by rfl), h1, by omega, List.mem_of_getElem? (i := 59) (by rfl), by decide, by decide⟩
def bk_X2_leavesOut_0 : List me_I := [(2, 0, 2, [], 1, 0, 0), (19, 2, 0, [], 3, 0, 253), (2, 1, 0, [], 1, 0, 0), (29, 33, 1, [3, 541, 542], 3, 0, 957), (14, 29, 0, [], 3, 0, 0), (2, 0, 2, [], 1, 0, 0), (19, 2, 5, [], 3, 0, 258), (41, 117, 1, [676], 3, 0, 970), (14, 29, 0, [], 3, 0, 0), (2, 0, 2, [], 1, 0, 0), (19, 2, 6, [], 3, 0, 259), (0, 1, 0, [], 1, 0, 0), (15, 31, 5, [], 3, 0, 0)]
def bk_X2_leavesOut_29 : List me_I := [(0, 0, 0, [], 1, 0, 0), (34, 0, 0, [], 1, 0, 0)]
def bk_X2_leavesOut_31 : List me_I := [(2, 0, 2, [], 1, 0, 0), (19, 2, 0, [], 3, 0, 253), (2, 1, 0, [], 1, 0, 0), (2, 0, 2, [], 1, 0, 0), (19, 2, 5, [], 3, 0, 258), (2, 0, 2, [], 1, 0, 0), (19, 2, 6, [], 3, 0, 259), (0, 1, 0, [], 1, 0, 0), (15, 52, 1, [], 3, 0, 0), (0, 1, 0, [], 1, 0, 0), (16, 53, 0, [], 3, 0, 0)]
def bk_X2_leavesOut_52 : List me_I := [(0, 0, 0, [], 1, 0, 0)]
def bk_X2_leavesOut_53 : List me_I := [(29, 51, 3, [3, 363, 364], 3, 0, 971), (0, 1, 0, [], 1, 0, 0), (34, 0, 0, [], 1, 0, 0)]
def cd_X2_leavesOut : List (Nat × List me_I) := [(0, bk_X2_leavesOut_0), (29, bk_X2_leavesOut_29), (31, bk_X2_leavesOut_31), (52, bk_X2_leavesOut_52), (53, bk_X2_leavesOut_53)]
theorem bq_X2_leavesOut_0 : me_bk cd_X2_leavesOut 0 = bk_X2_leavesOut_0 := rfl
theorem bq_X2_leavesOut_29 : me_bk cd_X2_leavesOut 29 = bk_X2_leavesOut_29 := rfl
theorem bq_X2_leavesOut_31 : me_bk cd_X2_leavesOut 31 = bk_X2_leavesOut_31 := rfl
theorem bq_X2_leavesOut_52 : me_bk cd_X2_leavesOut 52 = bk_X2_leavesOut_52 := rfl
theorem bq_X2_leavesOut_53 : me_bk cd_X2_leavesOut 53 = bk_X2_leavesOut_53 := rfl
set_option maxRecDepth 100000 in
theorem ck_X2_leavesOut : cd_X2_leavesOut.all (fun q => me_bck mt_nm RX2 cX2_leavesOut 2 (some .boolean) [33, 51, 117] 0 q.2 q.1) = true := by decide +kernel
set_option maxRecDepth 100000 in
theorem cl_X2_leavesOut {l : Launch} {R : Room} {fr lo mc : Nat} {sp : me_P} (h : me_M l yX2_leavesOut (.code yX2_leavesOut cX2_leavesOut 2 (some .boolean)) fr lo mc sp) (h1 : fr + 1 ≤ R.frames) (h2 : lo + 21 ≤ R.locals) : me_cal mt_nm l R 24 (mc, sp) := ⟨cX2_leavesOut, 2, (some .boolean), fr, lo, h, List.mem_of_getElem? (i := 969) (by rfl), h1, by omega, List.mem_of_getElem? (i := 59) (by rfl), by decide, by decide⟩
def bk_X2_skips_0 : List me_I := [(2, 0, 2, [], 1, 0, 0), (19, 2, 3, [], 3, 0, 256), (41, 116, 1, [618], 3, 0, 976), (14, 29, 0, [], 3, 0, 0), (2, 0, 2, [], 1, 0, 0), (19, 2, 0, [], 3, 0, 253), (2, 1, 0, [], 1, 0, 0), (29, 33, 1, [3, 541, 542], 3, 0, 957), (14, 29, 0, [], 3, 0, 0), (2, 0, 2, [], 1, 0, 0), (19, 2, 6, [], 3, 0, 259), (0, 1, 0, [], 1, 0, 0), (15, 31, 5, [], 3, 0, 0)]
def bk_X2_skips_29 : List me_I := [(0, 0, 0, [], 1, 0, 0), (34, 0, 0, [], 1, 0, 0)]
def bk_X2_skips_31 : List me_I := [(2, 0, 2, [], 1, 0, 0), (19, 2, 0, [], 3, 0, 253), (2, 0, 2, [], 1, 0, 0), (19, 2, 3, [], 3, 0, 256), (2, 1, 0, [], 1, 0, 0), (2, 0, 2, [], 1, 0, 0), (19, 2, 6, [], 3, 0, 259), (0, 1, 0, [], 1, 0, 0), (15, 52, 1, [], 3, 0, 0), (0, 1, 0, [], 1, 0, 0), (16, 53, 0, [], 3, 0, 0)]
def bk_X2_skips_52 : List me_I := [(0, 0, 0, [], 1, 0, 0)]
def bk_X2_skips_53 : List me_I := [(29, 52, 3, [3, 866, 867], 3, 0, 977), (0, 1, 0, [], 1, 0, 0), (34, 0, 0, [], 1, 0, 0)]
def cd_X2_skips : List (Nat × List me_I) := [(0, bk_X2_skips_0), (29, bk_X2_skips_29), (31, bk_X2_skips_31), (52, bk_X2_skips_52), (53, bk_X2_skips_53)]
theorem bq_X2_skips_0 : me_bk cd_X2_skips 0 = bk_X2_skips_0 := rfl
theorem bq_X2_skips_29 : me_bk cd_X2_skips 29 = bk_X2_skips_29 := rfl
theorem bq_X2_skips_31 : me_bk cd_X2_skips 31 = bk_X2_skips_31 := rfl
theorem bq_X2_skips_52 : me_bk cd_X2_skips 52 = bk_X2_skips_52 := rfl
theorem bq_X2_skips_53 : me_bk cd_X2_skips 53 = bk_X2_skips_53 := rfl
set_option maxRecDepth 100000 in
theorem ck_X2_skips : cd_X2_skips.all (fun q => me_bck mt_nm RX2 cX2_skips 2 (some .boolean) [33, 52, 116] 0 q.2 q.1) = true := by decide +kernel
set_option maxRecDepth 100000 in
theorem cl_X2_skips {l : Launch} {R : Room} {fr lo mc : Nat} {sp : me_P} (h : me_M l yX2_skips (.code yX2_skips cX2_skips 2 (some .boolean)) fr lo mc sp) (h1 : fr + 1 ≤ R.frames) (h2 : lo + 21 ≤ R.locals) : me_cal mt_nm l R 25 (mc, sp) := ⟨cX2_skips, 2, (some .boolean), fr, lo, h, List.mem_of_getElem? (i := 975) (by rfl), h1, by omega, List.mem_of_getElem? (i := 59) (by rfl), by decide, by decide⟩
def bk_X2_playsEnough_0 : List me_I := [(2, 0, 2, [], 1, 0, 0), (19, 2, 3, [], 3, 0, 256), (41, 116, 1, [618], 3, 0, 976), (14, 17, 0, [], 3, 0, 0), (2, 0, 2, [], 1, 0, 0), (19, 2, 4, [], 3, 0, 257), (14, 19, 0, [], 3, 0, 0)]
def bk_X2_playsEnough_17 : List me_I := [(0, 0, 0, [], 1, 0, 0), (34, 0, 0, [], 1, 0, 0)]
def bk_X2_playsEnough_19 : List me_I := [(2, 0, 2, [], 1, 0, 0), (19, 2, 1, [], 3, 0, 254), (2, 0, 2, [], 1, 0, 0), (19, 2, 0, [], 3, 0, 253), (2, 0, 2, [], 1, 0, 0), (19, 2, 3, [], 3, 0, 256), (29, 5, 2, [1, 622, 623], 3, 0, 982), (2, 0, 2, [], 1, 0, 0), (19, 2, 1, [], 3, 0, 254), (19, 1, 0, [], 3, 0, 195), (0, 10, 0, [], 2, 0, 0), (2, 0, 2, [], 1, 0, 0), (19, 2, 5, [], 3, 0, 258), (4, 2, 0, [], 1, 0, 0), (2, 0, 2, [], 1, 0, 0), (19, 2, 6, [], 3, 0, 259), (4, 0, 0, [], 1, 0, 0), (15, 60, 2, [], 3, 0, 0), (0, 1, 0, [], 1, 0, 0), (16, 61, 0, [], 3, 0, 0)]
def bk_X2_playsEnough_60 : List me_I := [(0, 0, 0, [], 1, 0, 0)]
def bk_X2_playsEnough_61 : List me_I := [(34, 0, 0, [], 1, 0, 0)]
def cd_X2_playsEnough : List (Nat × List me_I) := [(0, bk_X2_playsEnough_0), (17, bk_X2_playsEnough_17), (19, bk_X2_playsEnough_19), (60, bk_X2_playsEnough_60), (61, bk_X2_playsEnough_61)]
theorem bq_X2_playsEnough_0 : me_bk cd_X2_playsEnough 0 = bk_X2_playsEnough_0 := rfl
theorem bq_X2_playsEnough_17 : me_bk cd_X2_playsEnough 17 = bk_X2_playsEnough_17 := rfl
theorem bq_X2_playsEnough_19 : me_bk cd_X2_playsEnough 19 = bk_X2_playsEnough_19 := rfl
theorem bq_X2_playsEnough_60 : me_bk cd_X2_playsEnough 60 = bk_X2_playsEnough_60 := rfl
theorem bq_X2_playsEnough_61 : me_bk cd_X2_playsEnough 61 = bk_X2_playsEnough_61 := rfl
set_option maxRecDepth 100000 in
theorem ck_X2_playsEnough : cd_X2_playsEnough.all (fun q => me_bck mt_nm RX2 cX2_playsEnough 1 (some .boolean) [5, 116] 0 q.2 q.1) = true := by decide +kernel
set_option maxRecDepth 100000 in
theorem cl_X2_playsEnough {l : Launch} {R : Room} {fr lo mc : Nat} {sp : me_P} (h : me_M l yX2_playsEnough (.code yX2_playsEnough cX2_playsEnough 1 (some .boolean)) fr lo mc sp) (h1 : fr + 1 ≤ R.frames) (h2 : lo + 20 ≤ R.locals) : me_cal mt_nm l R 26 (mc, sp) := ⟨cX2_playsEnough, 1, (some .boolean), fr, lo, h, List.mem_of_getElem? (i := 981) (by rfl), h1, by omega, List.mem_of_getElem? (i := 59) (by rfl), by decide, by decide⟩
def bk_X2_endsInTime_0 : List me_I := [(2, 0, 2, [], 1, 0, 0), (19, 2, 3, [], 3, 0, 256), (41, 116, 1, [618], 3, 0, 976), (14, 12, 1, [], 3, 0, 0), (0, 0, 0, [], 1, 0, 0), (34, 0, 0, [], 1, 0, 0)]
def bk_X2_endsInTime_12 : List me_I := [(2, 0, 2, [], 1, 0, 0), (19, 2, 1, [], 3, 0, 254), (2, 0, 2, [], 1, 0, 0), (19, 2, 0, [], 3, 0, 253), (2, 0, 2, [], 1, 0, 0), (19, 2, 3, [], 3, 0, 256), (29, 5, 2, [1, 622, 623], 3, 0, 982), (2, 0, 2, [], 1, 0, 0), (19, 2, 1, [], 3, 0, 254), (19, 1, 1, [], 3, 0, 197), (1, 1000000, 0, [], 3, 0, 987), (0, 100, 0, [], 2, 0, 0), (2, 0, 2, [], 1, 0, 0), (19, 2, 4, [], 3, 0, 257), (4, 2, 0, [], 1, 0, 0), (0, 10, 0, [], 2, 0, 0), (2, 0, 2, [], 1, 0, 0), (19, 2, 5, [], 3, 0, 258), (4, 2, 0, [], 1, 0, 0), (4, 0, 0, [], 1, 0, 0), (2, 0, 2, [], 1, 0, 0), (19, 2, 6, [], 3, 0, 259), (4, 0, 0, [], 1, 0, 0), (7, 0, 0, [], 1, 0, 0), (5, 2, 0, [], 1, 0, 0), (9, 0, 0, [], 1, 0, 0), (14, 67, 4, [], 3, 0, 0), (0, 1, 0, [], 1, 0, 0), (16, 68, 0, [], 3, 0, 0)]
def bk_X2_endsInTime_67 : List me_I := [(0, 0, 0, [], 1, 0, 0)]
def bk_X2_endsInTime_68 : List me_I := [(34, 0, 0, [], 1, 0, 0)]
def cd_X2_endsInTime : List (Nat × List me_I) := [(0, bk_X2_endsInTime_0), (12, bk_X2_endsInTime_12), (67, bk_X2_endsInTime_67), (68, bk_X2_endsInTime_68)]
theorem bq_X2_endsInTime_0 : me_bk cd_X2_endsInTime 0 = bk_X2_endsInTime_0 := rfl
theorem bq_X2_endsInTime_12 : me_bk cd_X2_endsInTime 12 = bk_X2_endsInTime_12 := rfl
theorem bq_X2_endsInTime_67 : me_bk cd_X2_endsInTime 67 = bk_X2_endsInTime_67 := rfl
theorem bq_X2_endsInTime_68 : me_bk cd_X2_endsInTime 68 = bk_X2_endsInTime_68 := rfl
set_option maxRecDepth 100000 in
theorem ck_X2_endsInTime : cd_X2_endsInTime.all (fun q => me_bck mt_nm RX2 cX2_endsInTime 1 (some .boolean) [5, 116] 0 q.2 q.1) = true := by decide +kernel
set_option maxRecDepth 100000 in
theorem cl_X2_endsInTime {l : Launch} {R : Room} {fr lo mc : Nat} {sp : me_P} (h : me_M l yX2_endsInTime (.code yX2_endsInTime cX2_endsInTime 1 (some .boolean)) fr lo mc sp) (h1 : fr + 1 ≤ R.frames) (h2 : lo + 20 ≤ R.locals) : me_cal mt_nm l R 27 (mc, sp) := ⟨cX2_endsInTime, 1, (some .boolean), fr, lo, h, List.mem_of_getElem? (i := 986) (by rfl), h1, by omega, List.mem_of_getElem? (i := 59) (by rfl), by decide, by decide⟩
def bk_X2_removesSection_0 : List me_I := [(2, 0, 2, [], 1, 0, 0), (19, 2, 0, [], 3, 0, 253), (2, 0, 2, [], 1, 0, 0), (19, 2, 3, [], 3, 0, 256), (29, 34, 1, [3, 602, 603], 3, 0, 992), (14, 35, 0, [], 3, 0, 0), (2, 0, 2, [], 1, 0, 0), (19, 2, 4, [], 3, 0, 257), (14, 35, 1, [], 3, 0, 0), (2, 0, 2, [], 1, 0, 0), (19, 2, 5, [], 3, 0, 258), (14, 35, 1, [], 3, 0, 0), (2, 0, 2, [], 1, 0, 0), (19, 2, 6, [], 3, 0, 259), (14, 37, 0, [], 3, 0, 0)]
def bk_X2_removesSection_35 : List me_I := [(0, 0, 0, [], 1, 0, 0), (34, 0, 0, [], 1, 0, 0)]
def bk_X2_removesSection_37 : List me_I := [(2, 0, 2, [], 1, 0, 0), (19, 2, 0, [], 3, 0, 253), (2, 0, 2, [], 1, 0, 0), (19, 2, 3, [], 3, 0, 256), (29, 54, 1, [3, 855, 856], 3, 0, 993), (0, 1, 0, [], 1, 0, 0), (34, 0, 0, [], 1, 0, 0)]
def cd_X2_removesSection : List (Nat × List me_I) := [(0, bk_X2_removesSection_0), (35, bk_X2_removesSection_35), (37, bk_X2_removesSection_37)]
theorem bq_X2_removesSection_0 : me_bk cd_X2_removesSection 0 = bk_X2_removesSection_0 := rfl
theorem bq_X2_removesSection_35 : me_bk cd_X2_removesSection 35 = bk_X2_removesSection_35 := rfl
theorem bq_X2_removesSection_37 : me_bk cd_X2_removesSection 37 = bk_X2_removesSection_37 := rfl
set_option maxRecDepth 100000 in
theorem ck_X2_removesSection : cd_X2_removesSection.all (fun q => me_bck mt_nm RX2 cX2_removesSection 1 (some .boolean) [34, 54] 0 q.2 q.1) = true := by decide +kernel
set_option maxRecDepth 100000 in
theorem cl_X2_removesSection {l : Launch} {R : Room} {fr lo mc : Nat} {sp : me_P} (h : me_M l yX2_removesSection (.code yX2_removesSection cX2_removesSection 1 (some .boolean)) fr lo mc sp) (h1 : fr + 1 ≤ R.frames) (h2 : lo + 20 ≤ R.locals) : me_cal mt_nm l R 28 (mc, sp) := ⟨cX2_removesSection, 1, (some .boolean), fr, lo, h, List.mem_of_getElem? (i := 991) (by rfl), h1, by omega, List.mem_of_getElem? (i := 59) (by rfl), by decide, by decide⟩
def bk_X2_neverPart_0 : List me_I := [(2, 0, 2, [], 1, 0, 0), (19, 2, 3, [], 3, 0, 256), (41, 116, 1, [618], 3, 0, 976), (14, 34, 0, [], 3, 0, 0), (2, 0, 2, [], 1, 0, 0), (19, 2, 4, [], 3, 0, 257), (41, 116, 1, [618], 3, 0, 976), (14, 34, 0, [], 3, 0, 0), (2, 0, 2, [], 1, 0, 0), (19, 2, 5, [], 3, 0, 258), (14, 34, 1, [], 3, 0, 0), (2, 0, 2, [], 1, 0, 0), (19, 2, 6, [], 3, 0, 259), (14, 36, 0, [], 3, 0, 0)]
def bk_X2_neverPart_34 : List me_I := [(0, 0, 0, [], 1, 0, 0), (34, 0, 0, [], 1, 0, 0)]
def bk_X2_neverPart_36 : List me_I := [(2, 0, 2, [], 1, 0, 0), (19, 2, 1, [], 3, 0, 254), (2, 0, 2, [], 1, 0, 0), (19, 2, 0, [], 3, 0, 253), (2, 0, 2, [], 1, 0, 0), (19, 2, 3, [], 3, 0, 256), (29, 5, 2, [1, 622, 623], 3, 0, 982), (2, 0, 2, [], 1, 0, 0), (19, 2, 2, [], 3, 0, 255), (2, 0, 2, [], 1, 0, 0), (19, 2, 0, [], 3, 0, 253), (2, 0, 2, [], 1, 0, 0), (19, 2, 4, [], 3, 0, 257), (29, 5, 2, [1, 622, 623], 3, 0, 982), (2, 0, 2, [], 1, 0, 0), (19, 2, 1, [], 3, 0, 254), (2, 0, 2, [], 1, 0, 0), (19, 2, 2, [], 3, 0, 255), (29, 14, 1, [1, 762, 763], 3, 0, 998), (0, 9, 1, [], 2, 0, 0), (15, 86, 1, [], 3, 0, 0), (0, 1, 0, [], 1, 0, 0), (16, 87, 0, [], 3, 0, 0)]
def bk_X2_neverPart_86 : List me_I := [(0, 0, 0, [], 1, 0, 0)]
def bk_X2_neverPart_87 : List me_I := [(34, 0, 0, [], 1, 0, 0)]
def cd_X2_neverPart : List (Nat × List me_I) := [(0, bk_X2_neverPart_0), (34, bk_X2_neverPart_34), (36, bk_X2_neverPart_36), (86, bk_X2_neverPart_86), (87, bk_X2_neverPart_87)]
theorem bq_X2_neverPart_0 : me_bk cd_X2_neverPart 0 = bk_X2_neverPart_0 := rfl
theorem bq_X2_neverPart_34 : me_bk cd_X2_neverPart 34 = bk_X2_neverPart_34 := rfl
theorem bq_X2_neverPart_36 : me_bk cd_X2_neverPart 36 = bk_X2_neverPart_36 := rfl
theorem bq_X2_neverPart_86 : me_bk cd_X2_neverPart 86 = bk_X2_neverPart_86 := rfl
theorem bq_X2_neverPart_87 : me_bk cd_X2_neverPart 87 = bk_X2_neverPart_87 := rfl
set_option maxRecDepth 100000 in
theorem ck_X2_neverPart : cd_X2_neverPart.all (fun q => me_bck mt_nm RX2 cX2_neverPart 1 (some .boolean) [5, 14, 116] 0 q.2 q.1) = true := by decide +kernel
set_option maxRecDepth 100000 in
theorem cl_X2_neverPart {l : Launch} {R : Room} {fr lo mc : Nat} {sp : me_P} (h : me_M l yX2_neverPart (.code yX2_neverPart cX2_neverPart 1 (some .boolean)) fr lo mc sp) (h1 : fr + 1 ≤ R.frames) (h2 : lo + 20 ≤ R.locals) : me_cal mt_nm l R 29 (mc, sp) := ⟨cX2_neverPart, 1, (some .boolean), fr, lo, h, List.mem_of_getElem? (i := 997) (by rfl), h1, by omega, List.mem_of_getElem? (i := 59) (by rfl), by decide, by decide⟩
def bk_X3_copyFrom_0 : List me_I := [(2, 0, 2, [], 1, 0, 0), (2, 1, 2, [], 1, 0, 0), (19, 3, 0, [], 3, 0, 91), (20, 3, 0, [], 3, 0, 91), (2, 0, 2, [], 1, 0, 0), (2, 1, 2, [], 1, 0, 0), (19, 3, 1, [], 3, 0, 97), (20, 3, 1, [], 3, 0, 97), (2, 1, 2, [], 1, 0, 0), (19, 3, 2, [], 3, 0, 100), (2, 0, 2, [], 1, 0, 0), (19, 3, 2, [], 3, 0, 100), (41, 122, 2, [492], 3, 0, 491), (2, 1, 2, [], 1, 0, 0), (19, 3, 3, [], 3, 0, 104), (2, 0, 2, [], 1, 0, 0), (19, 3, 3, [], 3, 0, 104), (41, 122, 2, [492], 3, 0, 491), (2, 1, 2, [], 1, 0, 0), (19, 3, 4, [], 3, 0, 108), (2, 0, 2, [], 1, 0, 0), (19, 3, 4, [], 3, 0, 108), (41, 122, 2, [492], 3, 0, 491), (2, 1, 2, [], 1, 0, 0), (19, 3, 5, [], 3, 0, 109), (2, 0, 2, [], 1, 0, 0), (19, 3, 5, [], 3, 0, 109), (41, 122, 2, [492], 3, 0, 491), (2, 1, 2, [], 1, 0, 0), (19, 3, 6, [], 3, 0, 111), (2, 0, 2, [], 1, 0, 0), (19, 3, 6, [], 3, 0, 111), (41, 122, 2, [492], 3, 0, 491), (2, 1, 2, [], 1, 0, 0), (19, 3, 7, [], 3, 0, 114), (2, 0, 2, [], 1, 0, 0), (19, 3, 7, [], 3, 0, 114), (41, 122, 2, [492], 3, 0, 491), (2, 1, 2, [], 1, 0, 0), (19, 3, 8, [], 3, 0, 117), (2, 0, 2, [], 1, 0, 0), (19, 3, 8, [], 3, 0, 117), (41, 122, 2, [492], 3, 0, 491), (2, 1, 2, [], 1, 0, 0), (19, 3, 9, [], 3, 0, 120), (2, 0, 2, [], 1, 0, 0), (19, 3, 9, [], 3, 0, 120), (41, 122, 2, [492], 3, 0, 491), (31, 0, 0, [], 1, 0, 0)]
def cd_X3_copyFrom : List (Nat × List me_I) := [(0, bk_X3_copyFrom_0)]
theorem bq_X3_copyFrom_0 : me_bk cd_X3_copyFrom 0 = bk_X3_copyFrom_0 := rfl
set_option maxRecDepth 100000 in
theorem ck_X3_copyFrom : cd_X3_copyFrom.all (fun q => me_bck mt_nm RX3 cX3_copyFrom 2 none [122] 0 q.2 q.1) = true := by decide +kernel
set_option maxRecDepth 100000 in
theorem cl_X3_copyFrom {l : Launch} {R : Room} {fr lo mc : Nat} {sp : me_P} (h : me_M l yX3_copyFrom (.code yX3_copyFrom cX3_copyFrom 2 none) fr lo mc sp) (h1 : fr + 1 ≤ R.frames) (h2 : lo + 21 ≤ R.locals) : me_cal mt_nm l R 31 (mc, sp) := ⟨cX3_copyFrom, 2, none, fr, lo, h, List.mem_of_getElem? (i := 490) (by rfl), h1, by omega, List.mem_of_getElem? (i := 55) (by rfl), by decide, by decide⟩
def bk_X3_empty_0 : List me_I := [(2, 0, 2, [], 1, 0, 0), (0, 0, 0, [], 1, 0, 0), (20, 3, 0, [], 3, 0, 91), (2, 0, 2, [], 1, 0, 0), (0, 0, 0, [], 1, 0, 0), (20, 3, 1, [], 3, 0, 97), (2, 0, 2, [], 1, 0, 0), (19, 3, 9, [], 3, 0, 120), (0, 0, 0, [], 1, 0, 0), (30, 201, 2, [323], 3, 0, 322), (31, 0, 0, [], 1, 0, 0)]
def cd_X3_empty : List (Nat × List me_I) := [(0, bk_X3_empty_0)]
theorem bq_X3_empty_0 : me_bk cd_X3_empty 0 = bk_X3_empty_0 := rfl
set_option maxRecDepth 100000 in
theorem ck_X3_empty : cd_X3_empty.all (fun q => me_bck mt_nm RX3 cX3_empty 1 none [201] 0 q.2 q.1) = true := by decide +kernel
set_option maxRecDepth 100000 in
theorem cl_X3_empty {l : Launch} {R : Room} {fr lo mc : Nat} {sp : me_P} (h : me_M l yX3_empty (.code yX3_empty cX3_empty 1 none) fr lo mc sp) (h1 : fr + 1 ≤ R.frames) (h2 : lo + 20 ≤ R.locals) : me_cal mt_nm l R 32 (mc, sp) := ⟨cX3_empty, 1, none, fr, lo, h, List.mem_of_getElem? (i := 321) (by rfl), h1, by omega, List.mem_of_getElem? (i := 55) (by rfl), by decide, by decide⟩
def bk_X3_hasBar_0 : List me_I := [(2, 1, 0, [], 1, 0, 0), (14, 16, 2, [], 3, 0, 0), (2, 1, 0, [], 1, 0, 0), (2, 0, 2, [], 1, 0, 0), (19, 3, 0, [], 3, 0, 91), (15, 16, 3, [], 3, 0, 0), (0, 1, 0, [], 1, 0, 0), (16, 17, 0, [], 3, 0, 0)]
def bk_X3_hasBar_16 : List me_I := [(0, 0, 0, [], 1, 0, 0)]
def bk_X3_hasBar_17 : List me_I := [(34, 0, 0, [], 1, 0, 0)]
def cd_X3_hasBar : List (Nat × List me_I) := [(0, bk_X3_hasBar_0), (16, bk_X3_hasBar_16), (17, bk_X3_hasBar_17)]
theorem bq_X3_hasBar_0 : me_bk cd_X3_hasBar 0 = bk_X3_hasBar_0 := rfl
theorem bq_X3_hasBar_16 : me_bk cd_X3_hasBar 16 = bk_X3_hasBar_16 := rfl
theorem bq_X3_hasBar_17 : me_bk cd_X3_hasBar 17 = bk_X3_hasBar_17 := rfl
set_option maxRecDepth 100000 in
theorem ck_X3_hasBar : cd_X3_hasBar.all (fun q => me_bck mt_nm RX3 cX3_hasBar 2 (some .boolean) [] 0 q.2 q.1) = true := by decide +kernel
set_option maxRecDepth 100000 in
theorem cl_X3_hasBar {l : Launch} {R : Room} {fr lo mc : Nat} {sp : me_P} (h : me_M l yX3_hasBar (.code yX3_hasBar cX3_hasBar 2 (some .boolean)) fr lo mc sp) (h1 : fr + 1 ≤ R.frames) (h2 : lo + 21 ≤ R.locals) : me_cal mt_nm l R 33 (mc, sp) := ⟨cX3_hasBar, 2, (some .boolean), fr, lo, h, List.mem_of_getElem? (i := 543) (by rfl), h1, by omega, List.mem_of_getElem? (i := 55) (by rfl), by decide, by decide⟩
def bk_X3_hasSection_0 : List me_I := [(2, 1, 0, [], 1, 0, 0), (14, 16, 2, [], 3, 0, 0), (2, 1, 0, [], 1, 0, 0), (2, 0, 2, [], 1, 0, 0), (19, 3, 1, [], 3, 0, 97), (15, 16, 3, [], 3, 0, 0), (0, 1, 0, [], 1, 0, 0), (16, 17, 0, [], 3, 0, 0)]
def bk_X3_hasSection_16 : List me_I := [(0, 0, 0, [], 1, 0, 0)]
def bk_X3_hasSection_17 : List me_I := [(34, 0, 0, [], 1, 0, 0)]
def cd_X3_hasSection : List (Nat × List me_I) := [(0, bk_X3_hasSection_0), (16, bk_X3_hasSection_16), (17, bk_X3_hasSection_17)]
theorem bq_X3_hasSection_0 : me_bk cd_X3_hasSection 0 = bk_X3_hasSection_0 := rfl
theorem bq_X3_hasSection_16 : me_bk cd_X3_hasSection 16 = bk_X3_hasSection_16 := rfl
theorem bq_X3_hasSection_17 : me_bk cd_X3_hasSection 17 = bk_X3_hasSection_17 := rfl
set_option maxRecDepth 100000 in
theorem ck_X3_hasSection : cd_X3_hasSection.all (fun q => me_bck mt_nm RX3 cX3_hasSection 2 (some .boolean) [] 0 q.2 q.1) = true := by decide +kernel
set_option maxRecDepth 100000 in
theorem cl_X3_hasSection {l : Launch} {R : Room} {fr lo mc : Nat} {sp : me_P} (h : me_M l yX3_hasSection (.code yX3_hasSection cX3_hasSection 2 (some .boolean)) fr lo mc sp) (h1 : fr + 1 ≤ R.frames) (h2 : lo + 21 ≤ R.locals) : me_cal mt_nm l R 34 (mc, sp) := ⟨cX3_hasSection, 2, (some .boolean), fr, lo, h, List.mem_of_getElem? (i := 604) (by rfl), h1, by omega, List.mem_of_getElem? (i := 55) (by rfl), by decide, by decide⟩
def bk_X3_hasBeat_0 : List me_I := [(2, 2, 0, [], 1, 0, 0), (0, 1, 0, [], 1, 0, 0), (15, 19, 2, [], 3, 0, 0), (2, 2, 0, [], 1, 0, 0), (2, 0, 2, [], 1, 0, 0), (19, 3, 2, [], 3, 0, 100), (2, 1, 0, [], 1, 0, 0), (21, 0, 0, [], 1, 0, 0), (15, 19, 4, [], 3, 0, 0), (0, 1, 0, [], 1, 0, 0), (16, 20, 0, [], 3, 0, 0)]
def bk_X3_hasBeat_19 : List me_I := [(0, 0, 0, [], 1, 0, 0)]
def bk_X3_hasBeat_20 : List me_I := [(34, 0, 0, [], 1, 0, 0)]
def cd_X3_hasBeat : List (Nat × List me_I) := [(0, bk_X3_hasBeat_0), (19, bk_X3_hasBeat_19), (20, bk_X3_hasBeat_20)]
theorem bq_X3_hasBeat_0 : me_bk cd_X3_hasBeat 0 = bk_X3_hasBeat_0 := rfl
theorem bq_X3_hasBeat_19 : me_bk cd_X3_hasBeat 19 = bk_X3_hasBeat_19 := rfl
theorem bq_X3_hasBeat_20 : me_bk cd_X3_hasBeat 20 = bk_X3_hasBeat_20 := rfl
set_option maxRecDepth 100000 in
theorem ck_X3_hasBeat : cd_X3_hasBeat.all (fun q => me_bck mt_nm RX3 cX3_hasBeat 3 (some .boolean) [] 0 q.2 q.1) = true := by decide +kernel
set_option maxRecDepth 100000 in
theorem cl_X3_hasBeat {l : Launch} {R : Room} {fr lo mc : Nat} {sp : me_P} (h : me_M l yX3_hasBeat (.code yX3_hasBeat cX3_hasBeat 3 (some .boolean)) fr lo mc sp) (h1 : fr + 1 ≤ R.frames) (h2 : lo + 22 ≤ R.locals) : me_cal mt_nm l R 35 (mc, sp) := ⟨cX3_hasBeat, 3, (some .boolean), fr, lo, h, List.mem_of_getElem? (i := 587) (by rfl), h1, by omega, List.mem_of_getElem? (i := 55) (by rfl), by decide, by decide⟩
def bk_X3_isLeftOut_0 : List me_I := [(2, 0, 2, [], 1, 0, 0), (19, 3, 5, [], 3, 0, 109), (2, 1, 0, [], 1, 0, 0), (21, 0, 0, [], 1, 0, 0), (2, 2, 0, [], 1, 0, 0), (0, 1, 0, [], 1, 0, 0), (4, 1, 0, [], 1, 0, 0), (4, 7, 0, [], 1, 0, 0), (0, 1, 0, [], 1, 0, 0), (4, 3, 0, [], 1, 0, 0), (0, 1, 0, [], 1, 0, 0), (15, 20, 1, [], 3, 0, 0), (0, 1, 0, [], 1, 0, 0), (16, 21, 0, [], 3, 0, 0)]
def bk_X3_isLeftOut_20 : List me_I := [(0, 0, 0, [], 1, 0, 0)]
def bk_X3_isLeftOut_21 : List me_I := [(34, 0, 0, [], 1, 0, 0)]
def cd_X3_isLeftOut : List (Nat × List me_I) := [(0, bk_X3_isLeftOut_0), (20, bk_X3_isLeftOut_20), (21, bk_X3_isLeftOut_21)]
theorem bq_X3_isLeftOut_0 : me_bk cd_X3_isLeftOut 0 = bk_X3_isLeftOut_0 := rfl
theorem bq_X3_isLeftOut_20 : me_bk cd_X3_isLeftOut 20 = bk_X3_isLeftOut_20 := rfl
theorem bq_X3_isLeftOut_21 : me_bk cd_X3_isLeftOut 21 = bk_X3_isLeftOut_21 := rfl
set_option maxRecDepth 100000 in
theorem ck_X3_isLeftOut : cd_X3_isLeftOut.all (fun q => me_bck mt_nm RX3 cX3_isLeftOut 3 (some .boolean) [] 0 q.2 q.1) = true := by decide +kernel
set_option maxRecDepth 100000 in
theorem cl_X3_isLeftOut {l : Launch} {R : Room} {fr lo mc : Nat} {sp : me_P} (h : me_M l yX3_isLeftOut (.code yX3_isLeftOut cX3_isLeftOut 3 (some .boolean)) fr lo mc sp) (h1 : fr + 1 ≤ R.frames) (h2 : lo + 22 ≤ R.locals) : me_cal mt_nm l R 36 (mc, sp) := ⟨cX3_isLeftOut, 3, (some .boolean), fr, lo, h, List.mem_of_getElem? (i := 633) (by rfl), h1, by omega, List.mem_of_getElem? (i := 55) (by rfl), by decide, by decide⟩
def bk_X3_isSkipped_0 : List me_I := [(2, 0, 2, [], 1, 0, 0), (19, 3, 9, [], 3, 0, 120), (2, 1, 0, [], 1, 0, 0), (21, 0, 0, [], 1, 0, 0), (2, 2, 0, [], 1, 0, 0), (4, 7, 0, [], 1, 0, 0), (0, 1, 0, [], 1, 0, 0), (4, 3, 0, [], 1, 0, 0), (0, 1, 0, [], 1, 0, 0), (15, 18, 1, [], 3, 0, 0), (0, 1, 0, [], 1, 0, 0), (16, 19, 0, [], 3, 0, 0)]
def bk_X3_isSkipped_18 : List me_I := [(0, 0, 0, [], 1, 0, 0)]
def bk_X3_isSkipped_19 : List me_I := [(34, 0, 0, [], 1, 0, 0)]
def cd_X3_isSkipped : List (Nat × List me_I) := [(0, bk_X3_isSkipped_0), (18, bk_X3_isSkipped_18), (19, bk_X3_isSkipped_19)]
theorem bq_X3_isSkipped_0 : me_bk cd_X3_isSkipped 0 = bk_X3_isSkipped_0 := rfl
theorem bq_X3_isSkipped_18 : me_bk cd_X3_isSkipped 18 = bk_X3_isSkipped_18 := rfl
theorem bq_X3_isSkipped_19 : me_bk cd_X3_isSkipped 19 = bk_X3_isSkipped_19 := rfl
set_option maxRecDepth 100000 in
theorem ck_X3_isSkipped : cd_X3_isSkipped.all (fun q => me_bck mt_nm RX3 cX3_isSkipped 3 (some .boolean) [] 0 q.2 q.1) = true := by decide +kernel
set_option maxRecDepth 100000 in
theorem cl_X3_isSkipped {l : Launch} {R : Room} {fr lo mc : Nat} {sp : me_P} (h : me_M l yX3_isSkipped (.code yX3_isSkipped cX3_isSkipped 3 (some .boolean)) fr lo mc sp) (h1 : fr + 1 ≤ R.frames) (h2 : lo + 22 ≤ R.locals) : me_cal mt_nm l R 37 (mc, sp) := ⟨cX3_isSkipped, 3, (some .boolean), fr, lo, h, List.mem_of_getElem? (i := 637) (by rfl), h1, by omega, List.mem_of_getElem? (i := 55) (by rfl), by decide, by decide⟩
def bk_X3_stretchOf_0 : List me_I := [(2, 0, 2, [], 1, 0, 0), (19, 3, 4, [], 3, 0, 108), (2, 1, 0, [], 1, 0, 0), (0, 9, 0, [], 2, 0, 0), (4, 2, 0, [], 1, 0, 0), (2, 2, 0, [], 1, 0, 0), (4, 0, 0, [], 1, 0, 0), (0, 1, 0, [], 1, 0, 0), (4, 1, 0, [], 1, 0, 0), (21, 0, 0, [], 1, 0, 0), (32, 0, 0, [], 1, 0, 0)]
def cd_X3_stretchOf : List (Nat × List me_I) := [(0, bk_X3_stretchOf_0)]
theorem bq_X3_stretchOf_0 : me_bk cd_X3_stretchOf 0 = bk_X3_stretchOf_0 := rfl
set_option maxRecDepth 100000 in
theorem ck_X3_stretchOf : cd_X3_stretchOf.all (fun q => me_bck mt_nm RX3 cX3_stretchOf 3 (some .int) [] 0 q.2 q.1) = true := by decide +kernel
set_option maxRecDepth 100000 in
theorem cl_X3_stretchOf {l : Launch} {R : Room} {fr lo mc : Nat} {sp : me_P} (h : me_M l yX3_stretchOf (.code yX3_stretchOf cX3_stretchOf 3 (some .int)) fr lo mc sp) (h1 : fr + 1 ≤ R.frames) (h2 : lo + 22 ≤ R.locals) : me_cal mt_nm l R 38 (mc, sp) := ⟨cX3_stretchOf, 3, (some .int), fr, lo, h, List.mem_of_getElem? (i := 522) (by rfl), h1, by omega, List.mem_of_getElem? (i := 55) (by rfl), by decide, by decide⟩
def bk_X3_tempoOf_0 : List me_I := [(2, 1, 0, [], 1, 0, 0), (3, 2, 0, [], 1, 0, 0)]
def bk_X3_tempoOf_2 : List me_I := [(2, 2, 0, [], 1, 0, 0), (14, 28, 2, [], 3, 0, 0), (2, 0, 2, [], 1, 0, 0), (19, 3, 3, [], 3, 0, 104), (2, 2, 0, [], 1, 0, 0), (21, 0, 0, [], 1, 0, 0), (14, 22, 0, [], 3, 0, 0), (2, 0, 2, [], 1, 0, 0), (19, 3, 3, [], 3, 0, 104), (2, 2, 0, [], 1, 0, 0), (21, 0, 0, [], 1, 0, 0), (32, 0, 0, [], 1, 0, 0)]
def bk_X3_tempoOf_22 : List me_I := [(13, 2, 1, [1], 3, 0, 0), (16, 2, 0, [], 3, 0, 0)]
def bk_X3_tempoOf_28 : List me_I := [(0, 120, 0, [], 2, 0, 0), (32, 0, 0, [], 1, 0, 0)]
def cd_X3_tempoOf : List (Nat × List me_I) := [(0, bk_X3_tempoOf_0), (2, bk_X3_tempoOf_2), (22, bk_X3_tempoOf_22), (28, bk_X3_tempoOf_28)]
theorem bq_X3_tempoOf_0 : me_bk cd_X3_tempoOf 0 = bk_X3_tempoOf_0 := rfl
theorem bq_X3_tempoOf_2 : me_bk cd_X3_tempoOf 2 = bk_X3_tempoOf_2 := rfl
theorem bq_X3_tempoOf_22 : me_bk cd_X3_tempoOf 22 = bk_X3_tempoOf_22 := rfl
theorem bq_X3_tempoOf_28 : me_bk cd_X3_tempoOf 28 = bk_X3_tempoOf_28 := rfl
set_option maxRecDepth 100000 in
theorem ck_X3_tempoOf : cd_X3_tempoOf.all (fun q => me_bck mt_nm RX3 cX3_tempoOf 3 (some .int) [] 0 q.2 q.1) = true := by decide +kernel
set_option maxRecDepth 100000 in
theorem cl_X3_tempoOf {l : Launch} {R : Room} {fr lo mc : Nat} {sp : me_P} (h : me_M l yX3_tempoOf (.code yX3_tempoOf cX3_tempoOf 3 (some .int)) fr lo mc sp) (h1 : fr + 1 ≤ R.frames) (h2 : lo + 22 ≤ R.locals) : me_cal mt_nm l R 39 (mc, sp) := ⟨cX3_tempoOf, 3, (some .int), fr, lo, h, List.mem_of_getElem? (i := 563) (by rfl), h1, by omega, List.mem_of_getElem? (i := 55) (by rfl), by decide, by decide⟩
def bk_X3_sectionOf_0 : List me_I := [(0, 0, 0, [], 1, 0, 0), (3, 2, 0, [], 1, 0, 0)]
def bk_X3_sectionOf_2 : List me_I := [(2, 2, 0, [], 1, 0, 0), (2, 0, 2, [], 1, 0, 0), (19, 3, 1, [], 3, 0, 97), (15, 38, 3, [], 3, 0, 0), (2, 1, 0, [], 1, 0, 0), (2, 0, 2, [], 1, 0, 0), (19, 3, 6, [], 3, 0, 111), (2, 2, 0, [], 1, 0, 0), (21, 0, 0, [], 1, 0, 0), (15, 32, 2, [], 3, 0, 0), (2, 1, 0, [], 1, 0, 0), (2, 0, 2, [], 1, 0, 0), (19, 3, 7, [], 3, 0, 114), (2, 2, 0, [], 1, 0, 0), (21, 0, 0, [], 1, 0, 0), (15, 32, 4, [], 3, 0, 0), (2, 2, 0, [], 1, 0, 0), (32, 0, 0, [], 1, 0, 0)]
def bk_X3_sectionOf_32 : List me_I := [(13, 2, 1, [], 3, 0, 0), (16, 2, 0, [], 3, 0, 0)]
def bk_X3_sectionOf_38 : List me_I := [(0, 9, 1, [], 2, 0, 0), (32, 0, 0, [], 1, 0, 0)]
def cd_X3_sectionOf : List (Nat × List me_I) := [(0, bk_X3_sectionOf_0), (2, bk_X3_sectionOf_2), (32, bk_X3_sectionOf_32), (38, bk_X3_sectionOf_38)]
theorem bq_X3_sectionOf_0 : me_bk cd_X3_sectionOf 0 = bk_X3_sectionOf_0 := rfl
theorem bq_X3_sectionOf_2 : me_bk cd_X3_sectionOf 2 = bk_X3_sectionOf_2 := rfl
theorem bq_X3_sectionOf_32 : me_bk cd_X3_sectionOf 32 = bk_X3_sectionOf_32 := rfl
theorem bq_X3_sectionOf_38 : me_bk cd_X3_sectionOf 38 = bk_X3_sectionOf_38 := rfl
set_option maxRecDepth 100000 in
theorem ck_X3_sectionOf : cd_X3_sectionOf.all (fun q => me_bck mt_nm RX3 cX3_sectionOf 3 (some .int) [] 0 q.2 q.1) = true := by decide +kernel
set_option maxRecDepth 100000 in
theorem cl_X3_sectionOf {l : Launch} {R : Room} {fr lo mc : Nat} {sp : me_P} (h : me_M l yX3_sectionOf (.code yX3_sectionOf cX3_sectionOf 3 (some .int)) fr lo mc sp) (h1 : fr + 1 ≤ R.frames) (h2 : lo + 22 ≤ R.locals) : me_cal mt_nm l R 40 (mc, sp) := ⟨cX3_sectionOf, 3, (some .int), fr, lo, h, List.mem_of_getElem? (i := 567) (by rfl), h1, by omega, List.mem_of_getElem? (i := 55) (by rfl), by decide, by decide⟩
def bk_X3_hasSectionWithin_0 : List me_I := [(2, 1, 0, [], 1, 0, 0), (3, 3, 0, [], 1, 0, 0)]
def bk_X3_hasSectionWithin_2 : List me_I := [(2, 3, 0, [], 1, 0, 0), (2, 2, 0, [], 1, 0, 0), (15, 33, 4, [], 3, 0, 0), (2, 3, 0, [], 1, 0, 0), (2, 0, 2, [], 1, 0, 0), (19, 3, 0, [], 3, 0, 91), (15, 33, 3, [], 3, 0, 0), (2, 0, 2, [], 1, 0, 0), (2, 3, 0, [], 1, 0, 0), (29, 40, 1, [3, 565, 566], 3, 0, 738), (0, 9, 1, [], 2, 0, 0), (15, 27, 0, [], 3, 0, 0), (0, 1, 0, [], 1, 0, 0), (34, 0, 0, [], 1, 0, 0)]
def bk_X3_hasSectionWithin_27 : List me_I := [(13, 3, 1, [], 3, 0, 0), (16, 2, 0, [], 3, 0, 0)]
def bk_X3_hasSectionWithin_33 : List me_I := [(0, 0, 0, [], 1, 0, 0), (34, 0, 0, [], 1, 0, 0)]
def cd_X3_hasSectionWithin : List (Nat × List me_I) := [(0, bk_X3_hasSectionWithin_0), (2, bk_X3_hasSectionWithin_2), (27, bk_X3_hasSectionWithin_27), (33, bk_X3_hasSectionWithin_33)]
theorem bq_X3_hasSectionWithin_0 : me_bk cd_X3_hasSectionWithin 0 = bk_X3_hasSectionWithin_0 := rfl
theorem bq_X3_hasSectionWithin_2 : me_bk cd_X3_hasSectionWithin 2 = bk_X3_hasSectionWithin_2 := rfl
theorem bq_X3_hasSectionWithin_27 : me_bk cd_X3_hasSectionWithin 27 = bk_X3_hasSectionWithin_27 := rfl
theorem bq_X3_hasSectionWithin_33 : me_bk cd_X3_hasSectionWithin 33 = bk_X3_hasSectionWithin_33 := rfl
set_option maxRecDepth 100000 in
theorem ck_X3_hasSectionWithin : cd_X3_hasSectionWithin.all (fun q => me_bck mt_nm RX3 cX3_hasSectionWithin 4 (some .boolean) [40] 0 q.2 q.1) = true := by decide +kernel
set_option maxRecDepth 100000 in
theorem cl_X3_hasSectionWithin {l : Launch} {R : Room} {fr lo mc : Nat} {sp : me_P} (h : me_M l yX3_hasSectionWithin (.code yX3_hasSectionWithin cX3_hasSectionWithin 4 (some .boolean)) fr lo mc sp) (h1 : fr + 1 ≤ R.frames) (h2 : lo + 23 ≤ R.locals) : me_cal mt_nm l R 41 (mc, sp) := ⟨cX3_hasSectionWithin, 4, (some .boolean), fr, lo, h, List.mem_of_getElem? (i := 844) (by rfl), h1, by omega, List.mem_of_getElem? (i := 55) (by rfl), by decide, by decide⟩
def bk_X3_unitsOf_0 : List me_I := [(0, 0, 0, [], 1, 0, 0), (3, 2, 0, [], 1, 0, 0), (0, 1, 0, [], 1, 0, 0), (3, 3, 0, [], 1, 0, 0)]
def bk_X3_unitsOf_4 : List me_I := [(2, 3, 0, [], 1, 0, 0), (2, 0, 2, [], 1, 0, 0), (19, 3, 2, [], 3, 0, 100), (2, 1, 0, [], 1, 0, 0), (21, 0, 0, [], 1, 0, 0), (15, 29, 4, [], 3, 0, 0), (2, 2, 0, [], 1, 0, 0), (2, 0, 2, [], 1, 0, 0), (2, 1, 0, [], 1, 0, 0), (2, 3, 0, [], 1, 0, 0), (29, 38, 2, [3, 520, 521], 3, 0, 519), (4, 0, 0, [], 1, 0, 0), (3, 2, 0, [], 1, 0, 0), (13, 3, 1, [], 3, 0, 0), (16, 4, 0, [], 3, 0, 0)]
def bk_X3_unitsOf_29 : List me_I := [(2, 2, 0, [], 1, 0, 0), (32, 0, 0, [], 1, 0, 0)]
def cd_X3_unitsOf : List (Nat × List me_I) := [(0, bk_X3_unitsOf_0), (4, bk_X3_unitsOf_4), (29, bk_X3_unitsOf_29)]
theorem bq_X3_unitsOf_0 : me_bk cd_X3_unitsOf 0 = bk_X3_unitsOf_0 := rfl
theorem bq_X3_unitsOf_4 : me_bk cd_X3_unitsOf 4 = bk_X3_unitsOf_4 := rfl
theorem bq_X3_unitsOf_29 : me_bk cd_X3_unitsOf 29 = bk_X3_unitsOf_29 := rfl
set_option maxRecDepth 100000 in
theorem ck_X3_unitsOf : cd_X3_unitsOf.all (fun q => me_bck mt_nm RX3 cX3_unitsOf 4 (some .int) [38] 0 q.2 q.1) = true := by decide +kernel
set_option maxRecDepth 100000 in
theorem cl_X3_unitsOf {l : Launch} {R : Room} {fr lo mc : Nat} {sp : me_P} (h : me_M l yX3_unitsOf (.code yX3_unitsOf cX3_unitsOf 4 (some .int)) fr lo mc sp) (h1 : fr + 1 ≤ R.frames) (h2 : lo + 23 ≤ R.locals) : me_cal mt_nm l R 42 (mc, sp) := ⟨cX3_unitsOf, 4, (some .int), fr, lo, h, List.mem_of_getElem? (i := 571) (by rfl), h1, by omega, List.mem_of_getElem? (i := 55) (by rfl), by decide, by decide⟩
def bk_X3_scheduledPasses_0 : List me_I := [(2, 0, 2, [], 1, 0, 0), (2, 1, 0, [], 1, 0, 0), (29, 40, 1, [3, 565, 566], 3, 0, 738), (3, 2, 0, [], 1, 0, 0), (2, 2, 0, [], 1, 0, 0), (0, 9, 1, [], 2, 0, 0), (15, 16, 1, [], 3, 0, 0), (0, 1, 0, [], 1, 0, 0), (16, 22, 0, [], 3, 0, 0)]
def bk_X3_scheduledPasses_16 : List me_I := [(2, 0, 2, [], 1, 0, 0), (19, 3, 8, [], 3, 0, 117), (2, 2, 0, [], 1, 0, 0), (21, 0, 0, [], 1, 0, 0)]
def bk_X3_scheduledPasses_22 : List me_I := [(32, 0, 0, [], 1, 0, 0)]
def cd_X3_scheduledPasses : List (Nat × List me_I) := [(0, bk_X3_scheduledPasses_0), (16, bk_X3_scheduledPasses_16), (22, bk_X3_scheduledPasses_22)]
theorem bq_X3_scheduledPasses_0 : me_bk cd_X3_scheduledPasses 0 = bk_X3_scheduledPasses_0 := rfl
theorem bq_X3_scheduledPasses_16 : me_bk cd_X3_scheduledPasses 16 = bk_X3_scheduledPasses_16 := rfl
theorem bq_X3_scheduledPasses_22 : me_bk cd_X3_scheduledPasses 22 = bk_X3_scheduledPasses_22 := rfl
set_option maxRecDepth 100000 in
theorem ck_X3_scheduledPasses : cd_X3_scheduledPasses.all (fun q => me_bck mt_nm RX3 cX3_scheduledPasses 3 (some .int) [40] 0 q.2 q.1) = true := by decide +kernel
set_option maxRecDepth 100000 in
theorem cl_X3_scheduledPasses {l : Launch} {R : Room} {fr lo mc : Nat} {sp : me_P} (h : me_M l yX3_scheduledPasses (.code yX3_scheduledPasses cX3_scheduledPasses 3 (some .int)) fr lo mc sp) (h1 : fr + 1 ≤ R.frames) (h2 : lo + 22 ≤ R.locals) : me_cal mt_nm l R 43 (mc, sp) := ⟨cX3_scheduledPasses, 3, (some .int), fr, lo, h, List.mem_of_getElem? (i := 737) (by rfl), h1, by omega, List.mem_of_getElem? (i := 55) (by rfl), by decide, by decide⟩
def bk_X3_countScheduled_0 : List me_I := [(0, 0, 0, [], 1, 0, 0), (3, 1, 0, [], 1, 0, 0), (0, 0, 0, [], 1, 0, 0), (3, 2, 0, [], 1, 0, 0)]
def bk_X3_countScheduled_4 : List me_I := [(2, 2, 0, [], 1, 0, 0), (2, 0, 2, [], 1, 0, 0), (19, 3, 0, [], 3, 0, 91), (15, 26, 3, [], 3, 0, 0), (2, 1, 0, [], 1, 0, 0), (2, 0, 2, [], 1, 0, 0), (2, 2, 0, [], 1, 0, 0), (29, 43, 1, [3, 735, 736], 3, 0, 734), (4, 0, 0, [], 1, 0, 0), (3, 1, 0, [], 1, 0, 0), (13, 2, 1, [], 3, 0, 0), (16, 4, 0, [], 3, 0, 0)]
def bk_X3_countScheduled_26 : List me_I := [(2, 1, 0, [], 1, 0, 0), (32, 0, 0, [], 1, 0, 0)]
def cd_X3_countScheduled : List (Nat × List me_I) := [(0, bk_X3_countScheduled_0), (4, bk_X3_countScheduled_4), (26, bk_X3_countScheduled_26)]
theorem bq_X3_countScheduled_0 : me_bk cd_X3_countScheduled 0 = bk_X3_countScheduled_0 := rfl
theorem bq_X3_countScheduled_4 : me_bk cd_X3_countScheduled 4 = bk_X3_countScheduled_4 := rfl
theorem bq_X3_countScheduled_26 : me_bk cd_X3_countScheduled 26 = bk_X3_countScheduled_26 := rfl
set_option maxRecDepth 100000 in
theorem ck_X3_countScheduled : cd_X3_countScheduled.all (fun q => me_bck mt_nm RX3 cX3_countScheduled 3 (some .int) [43] 0 q.2 q.1) = true := by decide +kernel
set_option maxRecDepth 100000 in
theorem cl_X3_countScheduled {l : Launch} {R : Room} {fr lo mc : Nat} {sp : me_P} (h : me_M l yX3_countScheduled (.code yX3_countScheduled cX3_countScheduled 3 (some .int)) fr lo mc sp) (h1 : fr + 1 ≤ R.frames) (h2 : lo + 22 ≤ R.locals) : me_cal mt_nm l R 44 (mc, sp) := ⟨cX3_countScheduled, 3, (some .int), fr, lo, h, List.mem_of_getElem? (i := 733) (by rfl), h1, by omega, List.mem_of_getElem? (i := 55) (by rfl), by decide, by decide⟩
def bk_X3_countPlayedPasses_0 : List me_I := [(2, 0, 2, [], 1, 0, 0), (2, 1, 0, [], 1, 0, 0), (29, 43, 1, [3, 735, 736], 3, 0, 734), (3, 2, 0, [], 1, 0, 0), (0, 0, 0, [], 1, 0, 0), (3, 3, 0, [], 1, 0, 0), (0, 1, 0, [], 1, 0, 0), (3, 4, 0, [], 2, 0, 0)]
def bk_X3_countPlayedPasses_11 : List me_I := [(2, 4, 0, [], 2, 0, 0), (2, 2, 0, [], 1, 0, 0), (15, 36, 4, [], 3, 0, 0), (2, 0, 2, [], 1, 0, 0), (2, 1, 0, [], 1, 0, 0), (2, 4, 0, [], 2, 0, 0), (29, 36, 2, [3, 631, 632], 3, 0, 903), (14, 30, 1, [], 3, 0, 0), (13, 3, 1, [], 3, 0, 0)]
def bk_X3_countPlayedPasses_30 : List me_I := [(13, 4, 1, [], 3, 0, 0), (16, 11, 0, [], 3, 0, 0)]
def bk_X3_countPlayedPasses_36 : List me_I := [(2, 3, 0, [], 1, 0, 0), (32, 0, 0, [], 1, 0, 0)]
def cd_X3_countPlayedPasses : List (Nat × List me_I) := [(0, bk_X3_countPlayedPasses_0), (11, bk_X3_countPlayedPasses_11), (30, bk_X3_countPlayedPasses_30), (36, bk_X3_countPlayedPasses_36)]
theorem bq_X3_countPlayedPasses_0 : me_bk cd_X3_countPlayedPasses 0 = bk_X3_countPlayedPasses_0 := rfl
theorem bq_X3_countPlayedPasses_11 : me_bk cd_X3_countPlayedPasses 11 = bk_X3_countPlayedPasses_11 := rfl
theorem bq_X3_countPlayedPasses_30 : me_bk cd_X3_countPlayedPasses 30 = bk_X3_countPlayedPasses_30 := rfl
theorem bq_X3_countPlayedPasses_36 : me_bk cd_X3_countPlayedPasses 36 = bk_X3_countPlayedPasses_36 := rfl
set_option maxRecDepth 100000 in
theorem ck_X3_countPlayedPasses : cd_X3_countPlayedPasses.all (fun q => me_bck mt_nm RX3 cX3_countPlayedPasses 5 (some .int) [36, 43] 0 q.2 q.1) = true := by decide +kernel
set_option maxRecDepth 100000 in
theorem cl_X3_countPlayedPasses {l : Launch} {R : Room} {fr lo mc : Nat} {sp : me_P} (h : me_M l yX3_countPlayedPasses (.code yX3_countPlayedPasses cX3_countPlayedPasses 5 (some .int)) fr lo mc sp) (h1 : fr + 1 ≤ R.frames) (h2 : lo + 24 ≤ R.locals) : me_cal mt_nm l R 45 (mc, sp) := ⟨cX3_countPlayedPasses, 5, (some .int), fr, lo, h, List.mem_of_getElem? (i := 902) (by rfl), h1, by omega, List.mem_of_getElem? (i := 55) (by rfl), by decide, by decide⟩
def bk_X3_countMarks_0 : List me_I := [(0, 0, 0, [], 1, 0, 0), (3, 1, 0, [], 1, 0, 0), (0, 0, 0, [], 1, 0, 0), (3, 2, 0, [], 1, 0, 0)]
def bk_X3_countMarks_4 : List me_I := [(2, 2, 0, [], 1, 0, 0), (2, 0, 2, [], 1, 0, 0), (19, 3, 0, [], 3, 0, 91), (15, 30, 3, [], 3, 0, 0), (2, 0, 2, [], 1, 0, 0), (19, 3, 3, [], 3, 0, 104), (2, 2, 0, [], 1, 0, 0), (21, 0, 0, [], 1, 0, 0), (14, 24, 0, [], 3, 0, 0), (13, 1, 1, [], 3, 0, 0)]
def bk_X3_countMarks_24 : List me_I := [(13, 2, 1, [], 3, 0, 0), (16, 4, 0, [], 3, 0, 0)]
def bk_X3_countMarks_30 : List me_I := [(2, 1, 0, [], 1, 0, 0), (32, 0, 0, [], 1, 0, 0)]
def cd_X3_countMarks : List (Nat × List me_I) := [(0, bk_X3_countMarks_0), (4, bk_X3_countMarks_4), (24, bk_X3_countMarks_24), (30, bk_X3_countMarks_30)]
theorem bq_X3_countMarks_0 : me_bk cd_X3_countMarks 0 = bk_X3_countMarks_0 := rfl
theorem bq_X3_countMarks_4 : me_bk cd_X3_countMarks 4 = bk_X3_countMarks_4 := rfl
theorem bq_X3_countMarks_24 : me_bk cd_X3_countMarks 24 = bk_X3_countMarks_24 := rfl
theorem bq_X3_countMarks_30 : me_bk cd_X3_countMarks 30 = bk_X3_countMarks_30 := rfl
set_option maxRecDepth 100000 in
theorem ck_X3_countMarks : cd_X3_countMarks.all (fun q => me_bck mt_nm RX3 cX3_countMarks 3 (some .int) [] 0 q.2 q.1) = true := by decide +kernel
set_option maxRecDepth 100000 in
theorem cl_X3_countMarks {l : Launch} {R : Room} {fr lo mc : Nat} {sp : me_P} (h : me_M l yX3_countMarks (.code yX3_countMarks cX3_countMarks 3 (some .int)) fr lo mc sp) (h1 : fr + 1 ≤ R.frames) (h2 : lo + 22 ≤ R.locals) : me_cal mt_nm l R 46 (mc, sp) := ⟨cX3_countMarks, 3, (some .int), fr, lo, h, List.mem_of_getElem? (i := 514) (by rfl), h1, by omega, List.mem_of_getElem? (i := 55) (by rfl), by decide, by decide⟩
def bk_X3_countStretched_0 : List me_I := [(0, 0, 0, [], 1, 0, 0), (3, 1, 0, [], 1, 0, 0), (0, 0, 0, [], 1, 0, 0), (3, 2, 0, [], 1, 0, 0)]
def bk_X3_countStretched_4 : List me_I := [(2, 2, 0, [], 1, 0, 0), (2, 0, 2, [], 1, 0, 0), (19, 3, 0, [], 3, 0, 91), (15, 49, 3, [], 3, 0, 0), (0, 1, 0, [], 1, 0, 0), (3, 3, 0, [], 1, 0, 0)]
def bk_X3_countStretched_14 : List me_I := [(2, 3, 0, [], 1, 0, 0), (2, 0, 2, [], 1, 0, 0), (19, 3, 2, [], 3, 0, 100), (2, 2, 0, [], 1, 0, 0), (21, 0, 0, [], 1, 0, 0), (15, 43, 4, [], 3, 0, 0), (2, 0, 2, [], 1, 0, 0), (2, 2, 0, [], 1, 0, 0), (2, 3, 0, [], 1, 0, 0), (29, 38, 2, [3, 520, 521], 3, 0, 519), (0, 1, 0, [], 1, 0, 0), (15, 37, 5, [], 3, 0, 0), (13, 1, 1, [], 3, 0, 0)]
def bk_X3_countStretched_37 : List me_I := [(13, 3, 1, [], 3, 0, 0), (16, 14, 0, [], 3, 0, 0)]
def bk_X3_countStretched_43 : List me_I := [(13, 2, 1, [], 3, 0, 0), (16, 4, 0, [], 3, 0, 0)]
def bk_X3_countStretched_49 : List me_I := [(2, 1, 0, [], 1, 0, 0), (32, 0, 0, [], 1, 0, 0)]
def cd_X3_countStretched : List (Nat × List me_I) := [(0, bk_X3_countStretched_0), (4, bk_X3_countStretched_4), (14, bk_X3_countStretched_14), (37, bk_X3_countStretched_37), (43, bk_X3_countStretched_43), (49, bk_X3_countStretched_49)]
theorem bq_X3_countStretched_0 : me_bk cd_X3_countStretched 0 = bk_X3_countStretched_0 := rfl
theorem bq_X3_countStretched_4 : me_bk cd_X3_countStretched 4 = bk_X3_countStretched_4 := rfl
theorem bq_X3_countStretched_14 : me_bk cd_X3_countStretched 14 = bk_X3_countStretched_14 := rfl
theorem bq_X3_countStretched_37 : me_bk cd_X3_countStretched 37 = bk_X3_countStretched_37 := rfl
theorem bq_X3_countStretched_43 : me_bk cd_X3_countStretched 43 = bk_X3_countStretched_43 := rfl
theorem bq_X3_countStretched_49 : me_bk cd_X3_countStretched 49 = bk_X3_countStretched_49 := rfl
set_option maxRecDepth 100000 in
theorem ck_X3_countStretched : cd_X3_countStretched.all (fun q => me_bck mt_nm RX3 cX3_countStretched 4 (some .int) [38] 0 q.2 q.1) = true := by decide +kernel
set_option maxRecDepth 100000 in
theorem cl_X3_countStretched {l : Launch} {R : Room} {fr lo mc : Nat} {sp : me_P} (h : me_M l yX3_countStretched (.code yX3_countStretched cX3_countStretched 4 (some .int)) fr lo mc sp) (h1 : fr + 1 ≤ R.frames) (h2 : lo + 23 ≤ R.locals) : me_cal mt_nm l R 47 (mc, sp) := ⟨cX3_countStretched, 4, (some .int), fr, lo, h, List.mem_of_getElem? (i := 518) (by rfl), h1, by omega, List.mem_of_getElem? (i := 55) (by rfl), by decide, by decide⟩
def bk_X3_countWithPasses_0 : List me_I := [(0, 0, 0, [], 1, 0, 0), (3, 1, 0, [], 1, 0, 0), (0, 0, 0, [], 1, 0, 0), (3, 2, 0, [], 1, 0, 0)]
def bk_X3_countWithPasses_4 : List me_I := [(2, 2, 0, [], 1, 0, 0), (2, 0, 2, [], 1, 0, 0), (19, 3, 0, [], 3, 0, 91), (15, 30, 3, [], 3, 0, 0), (2, 0, 2, [], 1, 0, 0), (19, 3, 5, [], 3, 0, 109), (2, 2, 0, [], 1, 0, 0), (21, 0, 0, [], 1, 0, 0), (14, 24, 0, [], 3, 0, 0), (13, 1, 1, [], 3, 0, 0)]
def bk_X3_countWithPasses_24 : List me_I := [(13, 2, 1, [], 3, 0, 0), (16, 4, 0, [], 3, 0, 0)]
def bk_X3_countWithPasses_30 : List me_I := [(2, 1, 0, [], 1, 0, 0), (32, 0, 0, [], 1, 0, 0)]
def cd_X3_countWithPasses : List (Nat × List me_I) := [(0, bk_X3_countWithPasses_0), (4, bk_X3_countWithPasses_4), (24, bk_X3_countWithPasses_24), (30, bk_X3_countWithPasses_30)]
theorem bq_X3_countWithPasses_0 : me_bk cd_X3_countWithPasses 0 = bk_X3_countWithPasses_0 := rfl
theorem bq_X3_countWithPasses_4 : me_bk cd_X3_countWithPasses 4 = bk_X3_countWithPasses_4 := rfl
theorem bq_X3_countWithPasses_24 : me_bk cd_X3_countWithPasses 24 = bk_X3_countWithPasses_24 := rfl
theorem bq_X3_countWithPasses_30 : me_bk cd_X3_countWithPasses 30 = bk_X3_countWithPasses_30 := rfl
set_option maxRecDepth 100000 in
theorem ck_X3_countWithPasses : cd_X3_countWithPasses.all (fun q => me_bck mt_nm RX3 cX3_countWithPasses 3 (some .int) [] 0 q.2 q.1) = true := by decide +kernel
set_option maxRecDepth 100000 in
theorem cl_X3_countWithPasses {l : Launch} {R : Room} {fr lo mc : Nat} {sp : me_P} (h : me_M l yX3_countWithPasses (.code yX3_countWithPasses cX3_countWithPasses 3 (some .int)) fr lo mc sp) (h1 : fr + 1 ≤ R.frames) (h2 : lo + 22 ≤ R.locals) : me_cal mt_nm l R 48 (mc, sp) := ⟨cX3_countWithPasses, 3, (some .int), fr, lo, h, List.mem_of_getElem? (i := 526) (by rfl), h1, by omega, List.mem_of_getElem? (i := 55) (by rfl), by decide, by decide⟩
def bk_X3_putBar_0 : List me_I := [(2, 0, 2, [], 1, 0, 0), (19, 3, 0, [], 3, 0, 91), (0, 24, 0, [], 2, 0, 0), (15, 10, 2, [], 3, 0, 0), (31, 0, 0, [], 1, 0, 0)]
def bk_X3_putBar_10 : List me_I := [(2, 0, 2, [], 1, 0, 0), (19, 3, 0, [], 3, 0, 91), (3, 2, 0, [], 1, 0, 0), (2, 0, 2, [], 1, 0, 0), (10, 0, 0, [], 1, 0, 0), (19, 3, 0, [], 3, 0, 91), (0, 1, 0, [], 1, 0, 0), (4, 0, 0, [], 1, 0, 0), (20, 3, 0, [], 3, 0, 91), (2, 0, 2, [], 1, 0, 0), (19, 3, 2, [], 3, 0, 100), (2, 2, 0, [], 1, 0, 0), (2, 1, 0, [], 1, 0, 0), (22, 0, 0, [], 1, 0, 0), (2, 0, 2, [], 1, 0, 0), (19, 3, 3, [], 3, 0, 104), (2, 2, 0, [], 1, 0, 0), (0, 0, 0, [], 1, 0, 0), (22, 0, 0, [], 1, 0, 0), (2, 0, 2, [], 1, 0, 0), (19, 3, 5, [], 3, 0, 109), (2, 2, 0, [], 1, 0, 0), (0, 0, 0, [], 1, 0, 0), (22, 0, 0, [], 1, 0, 0), (0, 1, 0, [], 1, 0, 0), (3, 3, 0, [], 1, 0, 0)]
def bk_X3_putBar_48 : List me_I := [(2, 3, 0, [], 1, 0, 0), (0, 9, 0, [], 2, 0, 0), (15, 67, 4, [], 3, 0, 0), (2, 0, 2, [], 1, 0, 0), (2, 2, 0, [], 1, 0, 0), (2, 3, 0, [], 1, 0, 0), (0, 1, 0, [], 1, 0, 0), (29, 50, 3, [3, 346, 347], 3, 0, 345), (13, 3, 1, [], 3, 0, 0), (16, 48, 0, [], 3, 0, 0)]
def bk_X3_putBar_67 : List me_I := [(31, 0, 0, [], 1, 0, 0)]
def cd_X3_putBar : List (Nat × List me_I) := [(0, bk_X3_putBar_0), (10, bk_X3_putBar_10), (48, bk_X3_putBar_48), (67, bk_X3_putBar_67)]
theorem bq_X3_putBar_0 : me_bk cd_X3_putBar 0 = bk_X3_putBar_0 := rfl
theorem bq_X3_putBar_10 : me_bk cd_X3_putBar 10 = bk_X3_putBar_10 := rfl
theorem bq_X3_putBar_48 : me_bk cd_X3_putBar 48 = bk_X3_putBar_48 := rfl
theorem bq_X3_putBar_67 : me_bk cd_X3_putBar 67 = bk_X3_putBar_67 := rfl
set_option maxRecDepth 100000 in
theorem ck_X3_putBar : cd_X3_putBar.all (fun q => me_bck mt_nm RX3 cX3_putBar 4 none [50] 0 q.2 q.1) = true := by decide +kernel
set_option maxRecDepth 100000 in
theorem cl_X3_putBar {l : Launch} {R : Room} {fr lo mc : Nat} {sp : me_P} (h : me_M l yX3_putBar (.code yX3_putBar cX3_putBar 4 none) fr lo mc sp) (h1 : fr + 1 ≤ R.frames) (h2 : lo + 23 ≤ R.locals) : me_cal mt_nm l R 49 (mc, sp) := ⟨cX3_putBar, 4, none, fr, lo, h, List.mem_of_getElem? (i := 344) (by rfl), h1, by omega, List.mem_of_getElem? (i := 55) (by rfl), by decide, by decide⟩
def bk_X3_putStretch_0 : List me_I := [(2, 0, 2, [], 1, 0, 0), (19, 3, 4, [], 3, 0, 108), (2, 1, 0, [], 1, 0, 0), (0, 9, 0, [], 2, 0, 0), (4, 2, 0, [], 1, 0, 0), (2, 2, 0, [], 1, 0, 0), (4, 0, 0, [], 1, 0, 0), (0, 1, 0, [], 1, 0, 0), (4, 1, 0, [], 1, 0, 0), (2, 3, 0, [], 1, 0, 0), (22, 0, 0, [], 1, 0, 0), (31, 0, 0, [], 1, 0, 0)]
def cd_X3_putStretch : List (Nat × List me_I) := [(0, bk_X3_putStretch_0)]
theorem bq_X3_putStretch_0 : me_bk cd_X3_putStretch 0 = bk_X3_putStretch_0 := rfl
set_option maxRecDepth 100000 in
theorem ck_X3_putStretch : cd_X3_putStretch.all (fun q => me_bck mt_nm RX3 cX3_putStretch 4 none [] 0 q.2 q.1) = true := by decide +kernel
set_option maxRecDepth 100000 in
theorem cl_X3_putStretch {l : Launch} {R : Room} {fr lo mc : Nat} {sp : me_P} (h : me_M l yX3_putStretch (.code yX3_putStretch cX3_putStretch 4 none) fr lo mc sp) (h1 : fr + 1 ≤ R.frames) (h2 : lo + 23 ≤ R.locals) : me_cal mt_nm l R 50 (mc, sp) := ⟨cX3_putStretch, 4, none, fr, lo, h, List.mem_of_getElem? (i := 348) (by rfl), h1, by omega, List.mem_of_getElem? (i := 55) (by rfl), by decide, by decide⟩
def bk_X3_putLeftOut_0 : List me_I := [(0, 1, 0, [], 1, 0, 0), (2, 2, 0, [], 1, 0, 0), (0, 1, 0, [], 1, 0, 0), (4, 1, 0, [], 1, 0, 0), (4, 6, 0, [], 1, 0, 0), (3, 4, 0, [], 2, 0, 0), (2, 0, 2, [], 1, 0, 0), (19, 3, 5, [], 3, 0, 109), (2, 1, 0, [], 1, 0, 0), (2, 3, 0, [], 1, 0, 0), (14, 28, 0, [], 3, 0, 0), (2, 0, 2, [], 1, 0, 0), (19, 3, 5, [], 3, 0, 109), (2, 1, 0, [], 1, 0, 0), (21, 0, 0, [], 1, 0, 0), (2, 4, 0, [], 2, 0, 0), (4, 4, 0, [], 1, 0, 0), (16, 39, 0, [], 3, 0, 0)]
def bk_X3_putLeftOut_28 : List me_I := [(2, 0, 2, [], 1, 0, 0), (19, 3, 5, [], 3, 0, 109), (2, 1, 0, [], 1, 0, 0), (21, 0, 0, [], 1, 0, 0), (2, 4, 0, [], 2, 0, 0), (0, 1, 1, [], 1, 0, 0), (4, 5, 0, [], 1, 0, 0), (4, 3, 0, [], 1, 0, 0)]
def bk_X3_putLeftOut_39 : List me_I := [(22, 0, 0, [], 1, 0, 0), (31, 0, 0, [], 1, 0, 0)]
def cd_X3_putLeftOut : List (Nat × List me_I) := [(0, bk_X3_putLeftOut_0), (28, bk_X3_putLeftOut_28), (39, bk_X3_putLeftOut_39)]
theorem bq_X3_putLeftOut_0 : me_bk cd_X3_putLeftOut 0 = bk_X3_putLeftOut_0 := rfl
theorem bq_X3_putLeftOut_28 : me_bk cd_X3_putLeftOut 28 = bk_X3_putLeftOut_28 := rfl
theorem bq_X3_putLeftOut_39 : me_bk cd_X3_putLeftOut 39 = bk_X3_putLeftOut_39 := rfl
set_option maxRecDepth 100000 in
theorem ck_X3_putLeftOut : cd_X3_putLeftOut.all (fun q => me_bck mt_nm RX3 cX3_putLeftOut 5 none [] 0 q.2 q.1) = true := by decide +kernel
set_option maxRecDepth 100000 in
theorem cl_X3_putLeftOut {l : Launch} {R : Room} {fr lo mc : Nat} {sp : me_P} (h : me_M l yX3_putLeftOut (.code yX3_putLeftOut cX3_putLeftOut 5 none) fr lo mc sp) (h1 : fr + 1 ≤ R.frames) (h2 : lo + 24 ≤ R.locals) : me_cal mt_nm l R 51 (mc, sp) := ⟨cX3_putLeftOut, 5, none, fr, lo, h, List.mem_of_getElem? (i := 365) (by rfl), h1, by omega, List.mem_of_getElem? (i := 55) (by rfl), by decide, by decide⟩
def bk_X3_putSkipped_0 : List me_I := [(0, 1, 0, [], 1, 0, 0), (2, 2, 0, [], 1, 0, 0), (4, 6, 0, [], 1, 0, 0), (3, 4, 0, [], 2, 0, 0), (2, 0, 2, [], 1, 0, 0), (19, 3, 9, [], 3, 0, 120), (2, 1, 0, [], 1, 0, 0), (2, 3, 0, [], 1, 0, 0), (14, 26, 0, [], 3, 0, 0), (2, 0, 2, [], 1, 0, 0), (19, 3, 9, [], 3, 0, 120), (2, 1, 0, [], 1, 0, 0), (21, 0, 0, [], 1, 0, 0), (2, 4, 0, [], 2, 0, 0), (4, 4, 0, [], 1, 0, 0), (16, 37, 0, [], 3, 0, 0)]
def bk_X3_putSkipped_26 : List me_I := [(2, 0, 2, [], 1, 0, 0), (19, 3, 9, [], 3, 0, 120), (2, 1, 0, [], 1, 0, 0), (21, 0, 0, [], 1, 0, 0), (2, 4, 0, [], 2, 0, 0), (0, 1, 1, [], 1, 0, 0), (4, 5, 0, [], 1, 0, 0), (4, 3, 0, [], 1, 0, 0)]
def bk_X3_putSkipped_37 : List me_I := [(22, 0, 0, [], 1, 0, 0), (31, 0, 0, [], 1, 0, 0)]
def cd_X3_putSkipped : List (Nat × List me_I) := [(0, bk_X3_putSkipped_0), (26, bk_X3_putSkipped_26), (37, bk_X3_putSkipped_37)]
theorem bq_X3_putSkipped_0 : me_bk cd_X3_putSkipped 0 = bk_X3_putSkipped_0 := rfl
theorem bq_X3_putSkipped_26 : me_bk cd_X3_putSkipped 26 = bk_X3_putSkipped_26 := rfl
theorem bq_X3_putSkipped_37 : me_bk cd_X3_putSkipped 37 = bk_X3_putSkipped_37 := rfl
set_option maxRecDepth 100000 in
theorem ck_X3_putSkipped : cd_X3_putSkipped.all (fun q => me_bck mt_nm RX3 cX3_putSkipped 5 none [] 0 q.2 q.1) = true := by decide +kernel
set_option maxRecDepth 100000 in
theorem cl_X3_putSkipped {l : Launch} {R : Room} {fr lo mc : Nat} {sp : me_P} (h : me_M l yX3_putSkipped (.code yX3_putSkipped cX3_putSkipped 5 none) fr lo mc sp) (h1 : fr + 1 ≤ R.frames) (h2 : lo + 24 ≤ R.locals) : me_cal mt_nm l R 52 (mc, sp) := ⟨cX3_putSkipped, 5, none, fr, lo, h, List.mem_of_getElem? (i := 868) (by rfl), h1, by omega, List.mem_of_getElem? (i := 55) (by rfl), by decide, by decide⟩
def bk_X3_putSection_0 : List me_I := [(2, 0, 2, [], 1, 0, 0), (19, 3, 1, [], 3, 0, 97), (0, 4, 0, [], 1, 0, 0), (15, 11, 2, [], 3, 0, 0), (0, 9, 1, [], 2, 0, 0), (32, 0, 0, [], 1, 0, 0)]
def bk_X3_putSection_11 : List me_I := [(2, 0, 2, [], 1, 0, 0), (19, 3, 1, [], 3, 0, 97), (3, 4, 0, [], 2, 0, 0)]
def bk_X3_putSection_17 : List me_I := [(2, 4, 0, [], 2, 0, 0), (14, 51, 5, [], 3, 0, 0), (2, 0, 2, [], 1, 0, 0), (19, 3, 6, [], 3, 0, 111), (2, 4, 0, [], 2, 0, 0), (0, 1, 0, [], 1, 0, 0), (4, 1, 0, [], 1, 0, 0), (21, 0, 0, [], 1, 0, 0), (2, 1, 0, [], 1, 0, 0), (15, 51, 5, [], 3, 0, 0), (2, 0, 2, [], 1, 0, 0), (2, 4, 0, [], 2, 0, 0), (0, 1, 0, [], 1, 0, 0), (4, 1, 0, [], 1, 0, 0), (2, 4, 0, [], 2, 0, 0), (29, 55, 2, [3, 380, 9], 3, 0, 378), (13, 4, 1, [1], 3, 0, 0), (16, 17, 0, [], 3, 0, 0)]
def bk_X3_putSection_51 : List me_I := [(2, 0, 2, [], 1, 0, 0), (19, 3, 6, [], 3, 0, 111), (2, 4, 0, [], 2, 0, 0), (2, 1, 0, [], 1, 0, 0), (22, 0, 0, [], 1, 0, 0), (2, 0, 2, [], 1, 0, 0), (19, 3, 7, [], 3, 0, 114), (2, 4, 0, [], 2, 0, 0), (2, 2, 0, [], 1, 0, 0), (22, 0, 0, [], 1, 0, 0), (2, 0, 2, [], 1, 0, 0), (19, 3, 8, [], 3, 0, 117), (2, 4, 0, [], 2, 0, 0), (2, 3, 0, [], 1, 0, 0), (22, 0, 0, [], 1, 0, 0), (2, 0, 2, [], 1, 0, 0), (10, 0, 0, [], 1, 0, 0), (19, 3, 1, [], 3, 0, 97), (0, 1, 0, [], 1, 0, 0), (4, 0, 0, [], 1, 0, 0), (20, 3, 1, [], 3, 0, 97), (2, 4, 0, [], 2, 0, 0), (32, 0, 0, [], 1, 0, 0)]
def cd_X3_putSection : List (Nat × List me_I) := [(0, bk_X3_putSection_0), (11, bk_X3_putSection_11), (17, bk_X3_putSection_17), (51, bk_X3_putSection_51)]
theorem bq_X3_putSection_0 : me_bk cd_X3_putSection 0 = bk_X3_putSection_0 := rfl
theorem bq_X3_putSection_11 : me_bk cd_X3_putSection 11 = bk_X3_putSection_11 := rfl
theorem bq_X3_putSection_17 : me_bk cd_X3_putSection 17 = bk_X3_putSection_17 := rfl
theorem bq_X3_putSection_51 : me_bk cd_X3_putSection 51 = bk_X3_putSection_51 := rfl
set_option maxRecDepth 100000 in
theorem ck_X3_putSection : cd_X3_putSection.all (fun q => me_bck mt_nm RX3 cX3_putSection 5 (some .int) [55] 0 q.2 q.1) = true := by decide +kernel
set_option maxRecDepth 100000 in
theorem cl_X3_putSection {l : Launch} {R : Room} {fr lo mc : Nat} {sp : me_P} (h : me_M l yX3_putSection (.code yX3_putSection cX3_putSection 5 (some .int)) fr lo mc sp) (h1 : fr + 1 ≤ R.frames) (h2 : lo + 24 ≤ R.locals) : me_cal mt_nm l R 53 (mc, sp) := ⟨cX3_putSection, 5, (some .int), fr, lo, h, List.mem_of_getElem? (i := 377) (by rfl), h1, by omega, List.mem_of_getElem? (i := 55) (by rfl), by decide, by decide⟩
def bk_X3_dropSection_0 : List me_I := [(2, 1, 0, [], 1, 0, 0), (0, 1, 0, [], 1, 0, 0), (4, 0, 0, [], 1, 0, 0), (3, 2, 0, [], 1, 0, 0)]
def bk_X3_dropSection_4 : List me_I := [(2, 2, 0, [], 1, 0, 0), (2, 0, 2, [], 1, 0, 0), (19, 3, 1, [], 3, 0, 97), (15, 26, 3, [], 3, 0, 0), (2, 0, 2, [], 1, 0, 0), (2, 2, 0, [], 1, 0, 0), (2, 2, 0, [], 1, 0, 0), (0, 1, 0, [], 1, 0, 0), (4, 1, 0, [], 1, 0, 0), (29, 55, 2, [3, 380, 9], 3, 0, 378), (13, 2, 1, [], 3, 0, 0), (16, 4, 0, [], 3, 0, 0)]
def bk_X3_dropSection_26 : List me_I := [(2, 0, 2, [], 1, 0, 0), (10, 0, 0, [], 1, 0, 0), (19, 3, 1, [], 3, 0, 97), (0, 1, 0, [], 1, 0, 0), (4, 1, 0, [], 1, 0, 0), (20, 3, 1, [], 3, 0, 97), (31, 0, 0, [], 1, 0, 0)]
def cd_X3_dropSection : List (Nat × List me_I) := [(0, bk_X3_dropSection_0), (4, bk_X3_dropSection_4), (26, bk_X3_dropSection_26)]
theorem bq_X3_dropSection_0 : me_bk cd_X3_dropSection 0 = bk_X3_dropSection_0 := rfl
theorem bq_X3_dropSection_4 : me_bk cd_X3_dropSection 4 = bk_X3_dropSection_4 := rfl
theorem bq_X3_dropSection_26 : me_bk cd_X3_dropSection 26 = bk_X3_dropSection_26 := rfl
set_option maxRecDepth 100000 in
theorem ck_X3_dropSection : cd_X3_dropSection.all (fun q => me_bck mt_nm RX3 cX3_dropSection 3 none [55] 0 q.2 q.1) = true := by decide +kernel
set_option maxRecDepth 100000 in
theorem cl_X3_dropSection {l : Launch} {R : Room} {fr lo mc : Nat} {sp : me_P} (h : me_M l yX3_dropSection (.code yX3_dropSection cX3_dropSection 3 none) fr lo mc sp) (h1 : fr + 1 ≤ R.frames) (h2 : lo + 22 ≤ R.locals) : me_cal mt_nm l R 54 (mc, sp) := ⟨cX3_dropSection, 3, none, fr, lo, h, List.mem_of_getElem? (i := 857) (by rfl), h1, by omega, List.mem_of_getElem? (i := 55) (by rfl), by decide, by decide⟩
def bk_X3_moveSection_0 : List me_I := [(2, 0, 2, [], 1, 0, 0), (19, 3, 6, [], 3, 0, 111), (2, 2, 0, [], 1, 0, 0), (2, 0, 2, [], 1, 0, 0), (19, 3, 6, [], 3, 0, 111), (2, 1, 0, [], 1, 0, 0), (21, 0, 0, [], 1, 0, 0), (22, 0, 0, [], 1, 0, 0), (2, 0, 2, [], 1, 0, 0), (19, 3, 7, [], 3, 0, 114), (2, 2, 0, [], 1, 0, 0), (2, 0, 2, [], 1, 0, 0), (19, 3, 7, [], 3, 0, 114), (2, 1, 0, [], 1, 0, 0), (21, 0, 0, [], 1, 0, 0), (22, 0, 0, [], 1, 0, 0), (2, 0, 2, [], 1, 0, 0), (19, 3, 8, [], 3, 0, 117), (2, 2, 0, [], 1, 0, 0), (2, 0, 2, [], 1, 0, 0), (19, 3, 8, [], 3, 0, 117), (2, 1, 0, [], 1, 0, 0), (21, 0, 0, [], 1, 0, 0), (22, 0, 0, [], 1, 0, 0), (31, 0, 0, [], 1, 0, 0)]
def cd_X3_moveSection : List (Nat × List me_I) := [(0, bk_X3_moveSection_0)]
theorem bq_X3_moveSection_0 : me_bk cd_X3_moveSection 0 = bk_X3_moveSection_0 := rfl
set_option maxRecDepth 100000 in
theorem ck_X3_moveSection : cd_X3_moveSection.all (fun q => me_bck mt_nm RX3 cX3_moveSection 3 none [] 0 q.2 q.1) = true := by decide +kernel
set_option maxRecDepth 100000 in
theorem cl_X3_moveSection {l : Launch} {R : Room} {fr lo mc : Nat} {sp : me_P} (h : me_M l yX3_moveSection (.code yX3_moveSection cX3_moveSection 3 none) fr lo mc sp) (h1 : fr + 1 ≤ R.frames) (h2 : lo + 22 ≤ R.locals) : me_cal mt_nm l R 55 (mc, sp) := ⟨cX3_moveSection, 3, none, fr, lo, h, List.mem_of_getElem? (i := 381) (by rfl), h1, by omega, List.mem_of_getElem? (i := 55) (by rfl), by decide, by decide⟩
def bk_X4_put_0 : List me_I := [(2, 0, 2, [], 1, 0, 0), (19, 4, 4, [], 3, 0, 148), (0, 160, 0, [], 3, 0, 0), (15, 30, 3, [], 3, 0, 0), (2, 0, 2, [], 1, 0, 0), (19, 4, 0, [], 3, 0, 144), (2, 0, 2, [], 1, 0, 0), (19, 4, 4, [], 3, 0, 148), (2, 1, 0, [], 1, 0, 0), (22, 0, 0, [], 1, 0, 0), (2, 0, 2, [], 1, 0, 0), (10, 0, 0, [], 1, 0, 0), (19, 4, 4, [], 3, 0, 148), (0, 1, 0, [], 1, 0, 0), (4, 0, 0, [], 1, 0, 0), (20, 4, 4, [], 3, 0, 148)]
def bk_X4_put_30 : List me_I := [(31, 0, 0, [], 1, 0, 0)]
def cd_X4_put : List (Nat × List me_I) := [(0, bk_X4_put_0), (30, bk_X4_put_30)]
theorem bq_X4_put_0 : me_bk cd_X4_put 0 = bk_X4_put_0 := rfl
theorem bq_X4_put_30 : me_bk cd_X4_put 30 = bk_X4_put_30 := rfl
set_option maxRecDepth 100000 in
theorem ck_X4_put : cd_X4_put.all (fun q => me_bck mt_nm RX4 cX4_put 2 none [] 0 q.2 q.1) = true := by decide +kernel
set_option maxRecDepth 100000 in
theorem cl_X4_put {l : Launch} {R : Room} {fr lo mc : Nat} {sp : me_P} (h : me_M l yX4_put (.code yX4_put cX4_put 2 none) fr lo mc sp) (h1 : fr + 1 ≤ R.frames) (h2 : lo + 21 ≤ R.locals) : me_cal mt_nm l R 57 (mc, sp) := ⟨cX4_put, 2, none, fr, lo, h, List.mem_of_getElem? (i := 478) (by rfl), h1, by omega, List.mem_of_getElem? (i := 54) (by rfl), by decide, by decide⟩
def bk_X4_read_0 : List me_I := [(2, 0, 2, [], 1, 0, 0), (19, 4, 5, [], 3, 0, 150), (29, 32, 0, [3, 319, 320], 3, 0, 318), (2, 0, 2, [], 1, 0, 0), (0, 0, 0, [], 1, 0, 0), (20, 4, 2, [], 3, 0, 146), (2, 0, 2, [], 1, 0, 0), (0, 0, 0, [], 1, 0, 0), (20, 4, 1, [], 3, 0, 145), (2, 0, 2, [], 1, 0, 0), (29, 59, 0, [4, 327, 0], 3, 0, 325), (0, 67, 0, [], 2, 0, 0), (15, 31, 0, [], 3, 0, 0), (2, 0, 2, [], 1, 0, 0), (19, 4, 1, [], 3, 0, 145), (32, 0, 0, [], 1, 0, 0)]
def bk_X4_read_31 : List me_I := [(2, 0, 2, [], 1, 0, 0), (10, 0, 0, [], 1, 0, 0), (19, 4, 1, [], 3, 0, 145), (0, 1, 0, [], 1, 0, 0), (4, 0, 0, [], 1, 0, 0), (20, 4, 1, [], 3, 0, 145), (0, 0, 0, [], 1, 0, 0), (3, 1, 0, [], 1, 0, 0)]
def bk_X4_read_43 : List me_I := [(2, 1, 0, [], 1, 0, 0), (0, 160, 0, [], 3, 0, 0), (15, 79, 3, [], 3, 0, 0), (2, 0, 2, [], 1, 0, 0), (19, 4, 1, [], 3, 0, 145), (2, 0, 2, [], 1, 0, 0), (19, 4, 4, [], 3, 0, 148), (15, 79, 3, [], 3, 0, 0), (2, 0, 2, [], 1, 0, 0), (29, 60, 0, [4, 331, 1], 3, 0, 329), (14, 73, 1, [], 3, 0, 0), (2, 0, 2, [], 1, 0, 0), (19, 4, 1, [], 3, 0, 145), (32, 0, 0, [], 1, 0, 0)]
def bk_X4_read_73 : List me_I := [(13, 1, 1, [], 3, 0, 0), (16, 43, 0, [], 3, 0, 0)]
def bk_X4_read_79 : List me_I := [(2, 0, 2, [], 1, 0, 0), (19, 4, 2, [], 3, 0, 146), (14, 93, 0, [], 3, 0, 0), (2, 0, 2, [], 1, 0, 0), (19, 4, 1, [], 3, 0, 145), (16, 95, 0, [], 3, 0, 0)]
def bk_X4_read_93 : List me_I := [(0, 9, 1, [], 2, 0, 0)]
def bk_X4_read_95 : List me_I := [(32, 0, 0, [], 1, 0, 0)]
def cd_X4_read : List (Nat × List me_I) := [(0, bk_X4_read_0), (31, bk_X4_read_31), (43, bk_X4_read_43), (73, bk_X4_read_73), (79, bk_X4_read_79), (93, bk_X4_read_93), (95, bk_X4_read_95)]
theorem bq_X4_read_0 : me_bk cd_X4_read 0 = bk_X4_read_0 := rfl
theorem bq_X4_read_31 : me_bk cd_X4_read 31 = bk_X4_read_31 := rfl
theorem bq_X4_read_43 : me_bk cd_X4_read 43 = bk_X4_read_43 := rfl
theorem bq_X4_read_73 : me_bk cd_X4_read 73 = bk_X4_read_73 := rfl
theorem bq_X4_read_79 : me_bk cd_X4_read 79 = bk_X4_read_79 := rfl
theorem bq_X4_read_93 : me_bk cd_X4_read 93 = bk_X4_read_93 := rfl
theorem bq_X4_read_95 : me_bk cd_X4_read 95 = bk_X4_read_95 := rfl
set_option maxRecDepth 100000 in
theorem ck_X4_read : cd_X4_read.all (fun q => me_bck mt_nm RX4 cX4_read 2 (some .int) [32, 59, 60] 0 q.2 q.1) = true := by decide +kernel
set_option maxRecDepth 100000 in
theorem cl_X4_read {l : Launch} {R : Room} {fr lo mc : Nat} {sp : me_P} (h : me_M l yX4_read (.code yX4_read cX4_read 2 (some .int)) fr lo mc sp) (h1 : fr + 1 ≤ R.frames) (h2 : lo + 21 ≤ R.locals) : me_cal mt_nm l R 58 (mc, sp) := ⟨cX4_read, 2, (some .int), fr, lo, h, List.mem_of_getElem? (i := 317) (by rfl), h1, by omega, List.mem_of_getElem? (i := 54) (by rfl), by decide, by decide⟩
def bk_X4_sign_0 : List me_I := [(2, 0, 2, [], 1, 0, 0), (19, 4, 1, [], 3, 0, 145), (14, 30, 2, [], 3, 0, 0), (2, 0, 2, [], 1, 0, 0), (19, 4, 1, [], 3, 0, 145), (2, 0, 2, [], 1, 0, 0), (19, 4, 4, [], 3, 0, 148), (15, 30, 3, [], 3, 0, 0), (2, 0, 2, [], 1, 0, 0), (19, 4, 0, [], 3, 0, 144), (2, 0, 2, [], 1, 0, 0), (19, 4, 1, [], 3, 0, 145), (21, 0, 0, [], 1, 0, 0), (16, 32, 0, [], 3, 0, 0)]
def bk_X4_sign_30 : List me_I := [(0, 9, 1, [], 2, 0, 0)]
def bk_X4_sign_32 : List me_I := [(32, 0, 0, [], 1, 0, 0)]
def cd_X4_sign : List (Nat × List me_I) := [(0, bk_X4_sign_0), (30, bk_X4_sign_30), (32, bk_X4_sign_32)]
theorem bq_X4_sign_0 : me_bk cd_X4_sign 0 = bk_X4_sign_0 := rfl
theorem bq_X4_sign_30 : me_bk cd_X4_sign 30 = bk_X4_sign_30 := rfl
theorem bq_X4_sign_32 : me_bk cd_X4_sign 32 = bk_X4_sign_32 := rfl
set_option maxRecDepth 100000 in
theorem ck_X4_sign : cd_X4_sign.all (fun q => me_bck mt_nm RX4 cX4_sign 1 (some .int) [] 0 q.2 q.1) = true := by decide +kernel
set_option maxRecDepth 100000 in
theorem cl_X4_sign {l : Launch} {R : Room} {fr lo mc : Nat} {sp : me_P} (h : me_M l yX4_sign (.code yX4_sign cX4_sign 1 (some .int)) fr lo mc sp) (h1 : fr + 1 ≤ R.frames) (h2 : lo + 20 ≤ R.locals) : me_cal mt_nm l R 59 (mc, sp) := ⟨cX4_sign, 1, (some .int), fr, lo, h, List.mem_of_getElem? (i := 328) (by rfl), h1, by omega, List.mem_of_getElem? (i := 54) (by rfl), by decide, by decide⟩
def bk_X4_readPart_0 : List me_I := [(2, 0, 2, [], 1, 0, 0), (29, 59, 0, [4, 327, 0], 3, 0, 325), (18, 0, 0, [40, 165, 41, 170, 98, 64, 102, 101, 115, 133, 116, 69, 175], 60, 0, 0)]
def bk_X4_readPart_64 : List me_I := [(2, 0, 2, [], 1, 0, 0), (29, 62, 0, [4, 335, 2], 3, 0, 333), (34, 0, 0, [], 1, 0, 0)]
def bk_X4_readPart_69 : List me_I := [(2, 0, 2, [], 1, 0, 0), (19, 4, 5, [], 3, 0, 150), (19, 3, 0, [], 3, 0, 96), (14, 99, 5, [], 3, 0, 0), (2, 0, 2, [], 1, 0, 0), (2, 0, 2, [], 1, 0, 0), (19, 4, 5, [], 3, 0, 150), (19, 3, 0, [], 3, 0, 96), (0, 1, 0, [], 1, 0, 0), (4, 1, 0, [], 1, 0, 0), (29, 63, 1, [4, 351, 4], 3, 0, 349), (14, 99, 0, [], 3, 0, 0), (0, 1, 0, [], 1, 0, 0), (16, 100, 0, [], 3, 0, 0)]
def bk_X4_readPart_99 : List me_I := [(0, 0, 0, [], 1, 0, 0)]
def bk_X4_readPart_100 : List me_I := [(34, 0, 0, [], 1, 0, 0)]
def bk_X4_readPart_101 : List me_I := [(2, 0, 2, [], 1, 0, 0), (19, 4, 5, [], 3, 0, 150), (19, 3, 0, [], 3, 0, 96), (14, 131, 5, [], 3, 0, 0), (2, 0, 2, [], 1, 0, 0), (2, 0, 2, [], 1, 0, 0), (19, 4, 5, [], 3, 0, 150), (19, 3, 0, [], 3, 0, 96), (0, 1, 0, [], 1, 0, 0), (4, 1, 0, [], 1, 0, 0), (29, 64, 1, [4, 355, 5], 3, 0, 353), (14, 131, 0, [], 3, 0, 0), (0, 1, 0, [], 1, 0, 0), (16, 132, 0, [], 3, 0, 0)]
def bk_X4_readPart_131 : List me_I := [(0, 0, 0, [], 1, 0, 0)]
def bk_X4_readPart_132 : List me_I := [(34, 0, 0, [], 1, 0, 0)]
def bk_X4_readPart_133 : List me_I := [(2, 0, 2, [], 1, 0, 0), (19, 4, 5, [], 3, 0, 150), (19, 3, 0, [], 3, 0, 96), (14, 163, 5, [], 3, 0, 0), (2, 0, 2, [], 1, 0, 0), (2, 0, 2, [], 1, 0, 0), (19, 4, 5, [], 3, 0, 150), (19, 3, 0, [], 3, 0, 96), (0, 1, 0, [], 1, 0, 0), (4, 1, 0, [], 1, 0, 0), (29, 65, 1, [4, 360, 6], 3, 0, 358), (14, 163, 0, [], 3, 0, 0), (0, 1, 0, [], 1, 0, 0), (16, 164, 0, [], 3, 0, 0)]
def bk_X4_readPart_163 : List me_I := [(0, 0, 0, [], 1, 0, 0)]
def bk_X4_readPart_164 : List me_I := [(34, 0, 0, [], 1, 0, 0)]
def bk_X4_readPart_165 : List me_I := [(2, 0, 2, [], 1, 0, 0), (29, 66, 0, [4, 368, 7], 3, 0, 366), (34, 0, 0, [], 1, 0, 0)]
def bk_X4_readPart_170 : List me_I := [(2, 0, 2, [], 1, 0, 0), (29, 67, 0, [4, 372, 8], 3, 0, 370), (34, 0, 0, [], 1, 0, 0)]
def bk_X4_readPart_175 : List me_I := [(0, 0, 0, [], 1, 0, 0), (34, 0, 0, [], 1, 0, 0)]
def cd_X4_readPart : List (Nat × List me_I) := [(0, bk_X4_readPart_0), (64, bk_X4_readPart_64), (69, bk_X4_readPart_69), (99, bk_X4_readPart_99), (100, bk_X4_readPart_100), (101, bk_X4_readPart_101), (131, bk_X4_readPart_131), (132, bk_X4_readPart_132), (133, bk_X4_readPart_133), (163, bk_X4_readPart_163), (164, bk_X4_readPart_164), (165, bk_X4_readPart_165), (170, bk_X4_readPart_170), (175, bk_X4_readPart_175)]
theorem bq_X4_readPart_0 : me_bk cd_X4_readPart 0 = bk_X4_readPart_0 := rfl
theorem bq_X4_readPart_64 : me_bk cd_X4_readPart 64 = bk_X4_readPart_64 := rfl
theorem bq_X4_readPart_69 : me_bk cd_X4_readPart 69 = bk_X4_readPart_69 := rfl
theorem bq_X4_readPart_99 : me_bk cd_X4_readPart 99 = bk_X4_readPart_99 := rfl
theorem bq_X4_readPart_100 : me_bk cd_X4_readPart 100 = bk_X4_readPart_100 := rfl
theorem bq_X4_readPart_101 : me_bk cd_X4_readPart 101 = bk_X4_readPart_101 := rfl
theorem bq_X4_readPart_131 : me_bk cd_X4_readPart 131 = bk_X4_readPart_131 := rfl
theorem bq_X4_readPart_132 : me_bk cd_X4_readPart 132 = bk_X4_readPart_132 := rfl
theorem bq_X4_readPart_133 : me_bk cd_X4_readPart 133 = bk_X4_readPart_133 := rfl
theorem bq_X4_readPart_163 : me_bk cd_X4_readPart 163 = bk_X4_readPart_163 := rfl
theorem bq_X4_readPart_164 : me_bk cd_X4_readPart 164 = bk_X4_readPart_164 := rfl
theorem bq_X4_readPart_165 : me_bk cd_X4_readPart 165 = bk_X4_readPart_165 := rfl
theorem bq_X4_readPart_170 : me_bk cd_X4_readPart 170 = bk_X4_readPart_170 := rfl
theorem bq_X4_readPart_175 : me_bk cd_X4_readPart 175 = bk_X4_readPart_175 := rfl
set_option maxRecDepth 100000 in
theorem ck_X4_readPart : cd_X4_readPart.all (fun q => me_bck mt_nm RX4 cX4_readPart 1 (some .boolean) [59, 62, 63, 64, 65, 66, 67] 0 q.2 q.1) = true := by decide +kernel
set_option maxRecDepth 100000 in
theorem cl_X4_readPart {l : Launch} {R : Room} {fr lo mc : Nat} {sp : me_P} (h : me_M l yX4_readPart (.code yX4_readPart cX4_readPart 1 (some .boolean)) fr lo mc sp) (h1 : fr + 1 ≤ R.frames) (h2 : lo + 20 ≤ R.locals) : me_cal mt_nm l R 60 (mc, sp) := ⟨cX4_readPart, 1, (some .boolean), fr, lo, h, List.mem_of_getElem? (i := 332) (by rfl), h1, by omega, List.mem_of_getElem? (i := 54) (by rfl), by decide, by decide⟩
def bk_X4_readDigit_0 : List me_I := [(2, 0, 2, [], 1, 0, 0), (29, 59, 0, [4, 327, 0], 3, 0, 325), (0, 48, 0, [], 2, 0, 0), (4, 1, 0, [], 1, 0, 0), (3, 3, 0, [], 1, 0, 0), (2, 3, 0, [], 1, 0, 0), (2, 1, 0, [], 1, 0, 0), (15, 18, 2, [], 3, 0, 0), (2, 3, 0, [], 1, 0, 0), (2, 2, 0, [], 1, 0, 0), (15, 21, 5, [], 3, 0, 0)]
def bk_X4_readDigit_18 : List me_I := [(0, 9, 1, [], 2, 0, 0), (32, 0, 0, [], 1, 0, 0)]
def bk_X4_readDigit_21 : List me_I := [(2, 0, 2, [], 1, 0, 0), (10, 0, 0, [], 1, 0, 0), (19, 4, 1, [], 3, 0, 145), (0, 1, 0, [], 1, 0, 0), (4, 0, 0, [], 1, 0, 0), (20, 4, 1, [], 3, 0, 145), (2, 3, 0, [], 1, 0, 0), (32, 0, 0, [], 1, 0, 0)]
def cd_X4_readDigit : List (Nat × List me_I) := [(0, bk_X4_readDigit_0), (18, bk_X4_readDigit_18), (21, bk_X4_readDigit_21)]
theorem bq_X4_readDigit_0 : me_bk cd_X4_readDigit 0 = bk_X4_readDigit_0 := rfl
theorem bq_X4_readDigit_18 : me_bk cd_X4_readDigit 18 = bk_X4_readDigit_18 := rfl
theorem bq_X4_readDigit_21 : me_bk cd_X4_readDigit 21 = bk_X4_readDigit_21 := rfl
set_option maxRecDepth 100000 in
theorem ck_X4_readDigit : cd_X4_readDigit.all (fun q => me_bck mt_nm RX4 cX4_readDigit 4 (some .int) [59] 0 q.2 q.1) = true := by decide +kernel
set_option maxRecDepth 100000 in
theorem cl_X4_readDigit {l : Launch} {R : Room} {fr lo mc : Nat} {sp : me_P} (h : me_M l yX4_readDigit (.code yX4_readDigit cX4_readDigit 4 (some .int)) fr lo mc sp) (h1 : fr + 1 ≤ R.frames) (h2 : lo + 23 ≤ R.locals) : me_cal mt_nm l R 61 (mc, sp) := ⟨cX4_readDigit, 4, (some .int), fr, lo, h, List.mem_of_getElem? (i := 340) (by rfl), h1, by omega, List.mem_of_getElem? (i := 54) (by rfl), by decide, by decide⟩
def bk_X4_readBar_0 : List me_I := [(2, 0, 2, [], 1, 0, 0), (19, 4, 5, [], 3, 0, 150), (19, 3, 0, [], 3, 0, 96), (0, 24, 0, [], 2, 0, 0), (15, 14, 2, [], 3, 0, 0), (0, 0, 0, [], 1, 0, 0), (34, 0, 0, [], 1, 0, 0)]
def bk_X4_readBar_14 : List me_I := [(2, 0, 2, [], 1, 0, 0), (10, 0, 0, [], 1, 0, 0), (19, 4, 1, [], 3, 0, 145), (0, 1, 0, [], 1, 0, 0), (4, 0, 0, [], 1, 0, 0), (20, 4, 1, [], 3, 0, 145), (2, 0, 2, [], 1, 0, 0), (0, 1, 0, [], 1, 0, 0), (0, 9, 0, [], 2, 0, 0), (29, 61, 2, [4, 339, 3], 3, 0, 337), (3, 1, 0, [], 1, 0, 0), (2, 1, 0, [], 1, 0, 0), (0, 9, 1, [], 2, 0, 0), (15, 40, 1, [], 3, 0, 0), (0, 0, 0, [], 1, 0, 0), (34, 0, 0, [], 1, 0, 0)]
def bk_X4_readBar_40 : List me_I := [(2, 0, 2, [], 1, 0, 0), (19, 4, 5, [], 3, 0, 150), (2, 1, 0, [], 1, 0, 0), (29, 49, 1, [3, 342, 343], 3, 0, 341), (0, 1, 0, [], 1, 0, 0), (34, 0, 0, [], 1, 0, 0)]
def cd_X4_readBar : List (Nat × List me_I) := [(0, bk_X4_readBar_0), (14, bk_X4_readBar_14), (40, bk_X4_readBar_40)]
theorem bq_X4_readBar_0 : me_bk cd_X4_readBar 0 = bk_X4_readBar_0 := rfl
theorem bq_X4_readBar_14 : me_bk cd_X4_readBar 14 = bk_X4_readBar_14 := rfl
theorem bq_X4_readBar_40 : me_bk cd_X4_readBar 40 = bk_X4_readBar_40 := rfl
set_option maxRecDepth 100000 in
theorem ck_X4_readBar : cd_X4_readBar.all (fun q => me_bck mt_nm RX4 cX4_readBar 2 (some .boolean) [49, 61] 0 q.2 q.1) = true := by decide +kernel
set_option maxRecDepth 100000 in
theorem cl_X4_readBar {l : Launch} {R : Room} {fr lo mc : Nat} {sp : me_P} (h : me_M l yX4_readBar (.code yX4_readBar cX4_readBar 2 (some .boolean)) fr lo mc sp) (h1 : fr + 1 ≤ R.frames) (h2 : lo + 21 ≤ R.locals) : me_cal mt_nm l R 62 (mc, sp) := ⟨cX4_readBar, 2, (some .boolean), fr, lo, h, List.mem_of_getElem? (i := 336) (by rfl), h1, by omega, List.mem_of_getElem? (i := 54) (by rfl), by decide, by decide⟩
def bk_X4_readTempo_0 : List me_I := [(2, 0, 2, [], 1, 0, 0), (10, 0, 0, [], 1, 0, 0), (19, 4, 1, [], 3, 0, 145), (0, 1, 0, [], 1, 0, 0), (4, 0, 0, [], 1, 0, 0), (20, 4, 1, [], 3, 0, 145), (2, 0, 2, [], 1, 0, 0), (0, 0, 0, [], 1, 0, 0), (0, 2, 0, [], 1, 0, 0), (29, 61, 2, [4, 339, 3], 3, 0, 337), (3, 2, 0, [], 1, 0, 0), (2, 2, 0, [], 1, 0, 0), (0, 9, 1, [], 2, 0, 0), (15, 25, 1, [], 3, 0, 0), (0, 0, 0, [], 1, 0, 0), (34, 0, 0, [], 1, 0, 0)]
def bk_X4_readTempo_25 : List me_I := [(2, 0, 2, [], 1, 0, 0), (2, 2, 0, [], 1, 0, 0), (14, 34, 1, [], 3, 0, 0), (0, 3, 0, [], 1, 0, 0), (16, 35, 0, [], 3, 0, 0)]
def bk_X4_readTempo_34 : List me_I := [(0, 0, 0, [], 1, 0, 0)]
def bk_X4_readTempo_35 : List me_I := [(2, 2, 0, [], 1, 0, 0), (0, 2, 0, [], 1, 0, 0), (15, 44, 1, [], 3, 0, 0), (0, 4, 0, [], 1, 0, 0), (16, 46, 0, [], 3, 0, 0)]
def bk_X4_readTempo_44 : List me_I := [(0, 9, 0, [], 2, 0, 0)]
def bk_X4_readTempo_46 : List me_I := [(29, 61, 2, [4, 339, 3], 3, 0, 337), (3, 3, 0, [], 1, 0, 0), (2, 3, 0, [], 1, 0, 0), (0, 9, 1, [], 2, 0, 0), (15, 58, 1, [], 3, 0, 0), (0, 0, 0, [], 1, 0, 0), (34, 0, 0, [], 1, 0, 0)]
def bk_X4_readTempo_58 : List me_I := [(2, 0, 2, [], 1, 0, 0), (0, 0, 0, [], 1, 0, 0), (2, 2, 0, [], 1, 0, 0), (0, 2, 0, [], 1, 0, 0), (15, 74, 1, [], 3, 0, 0), (2, 3, 0, [], 1, 0, 0), (0, 4, 0, [], 1, 0, 0), (15, 74, 1, [], 3, 0, 0), (0, 0, 0, [], 1, 0, 0), (16, 76, 0, [], 3, 0, 0)]
def bk_X4_readTempo_74 : List me_I := [(0, 9, 0, [], 2, 0, 0)]
def bk_X4_readTempo_76 : List me_I := [(29, 61, 2, [4, 339, 3], 3, 0, 337), (3, 4, 0, [], 2, 0, 0), (2, 4, 0, [], 2, 0, 0), (0, 9, 1, [], 2, 0, 0), (15, 90, 1, [], 3, 0, 0), (0, 0, 0, [], 1, 0, 0), (34, 0, 0, [], 1, 0, 0)]
def bk_X4_readTempo_90 : List me_I := [(2, 0, 2, [], 1, 0, 0), (19, 4, 5, [], 3, 0, 150), (19, 3, 3, [], 3, 0, 107), (2, 1, 0, [], 1, 0, 0), (0, 100, 0, [], 2, 0, 0), (2, 2, 0, [], 1, 0, 0), (4, 2, 0, [], 1, 0, 0), (0, 10, 0, [], 2, 0, 0), (2, 3, 0, [], 1, 0, 0), (4, 2, 0, [], 1, 0, 0), (4, 0, 0, [], 1, 0, 0), (2, 4, 0, [], 2, 0, 0), (4, 0, 0, [], 1, 0, 0), (22, 0, 0, [], 1, 0, 0), (0, 1, 0, [], 1, 0, 0), (34, 0, 0, [], 1, 0, 0)]
def cd_X4_readTempo : List (Nat × List me_I) := [(0, bk_X4_readTempo_0), (25, bk_X4_readTempo_25), (34, bk_X4_readTempo_34), (35, bk_X4_readTempo_35), (44, bk_X4_readTempo_44), (46, bk_X4_readTempo_46), (58, bk_X4_readTempo_58), (74, bk_X4_readTempo_74), (76, bk_X4_readTempo_76), (90, bk_X4_readTempo_90)]
theorem bq_X4_readTempo_0 : me_bk cd_X4_readTempo 0 = bk_X4_readTempo_0 := rfl
theorem bq_X4_readTempo_25 : me_bk cd_X4_readTempo 25 = bk_X4_readTempo_25 := rfl
theorem bq_X4_readTempo_34 : me_bk cd_X4_readTempo 34 = bk_X4_readTempo_34 := rfl
theorem bq_X4_readTempo_35 : me_bk cd_X4_readTempo 35 = bk_X4_readTempo_35 := rfl
theorem bq_X4_readTempo_44 : me_bk cd_X4_readTempo 44 = bk_X4_readTempo_44 := rfl
theorem bq_X4_readTempo_46 : me_bk cd_X4_readTempo 46 = bk_X4_readTempo_46 := rfl
theorem bq_X4_readTempo_58 : me_bk cd_X4_readTempo 58 = bk_X4_readTempo_58 := rfl
theorem bq_X4_readTempo_74 : me_bk cd_X4_readTempo 74 = bk_X4_readTempo_74 := rfl
theorem bq_X4_readTempo_76 : me_bk cd_X4_readTempo 76 = bk_X4_readTempo_76 := rfl
theorem bq_X4_readTempo_90 : me_bk cd_X4_readTempo 90 = bk_X4_readTempo_90 := rfl
set_option maxRecDepth 100000 in
theorem ck_X4_readTempo : cd_X4_readTempo.all (fun q => me_bck mt_nm RX4 cX4_readTempo 5 (some .boolean) [61] 0 q.2 q.1) = true := by decide +kernel
set_option maxRecDepth 100000 in
theorem cl_X4_readTempo {l : Launch} {R : Room} {fr lo mc : Nat} {sp : me_P} (h : me_M l yX4_readTempo (.code yX4_readTempo cX4_readTempo 5 (some .boolean)) fr lo mc sp) (h1 : fr + 1 ≤ R.frames) (h2 : lo + 24 ≤ R.locals) : me_cal mt_nm l R 63 (mc, sp) := ⟨cX4_readTempo, 5, (some .boolean), fr, lo, h, List.mem_of_getElem? (i := 352) (by rfl), h1, by omega, List.mem_of_getElem? (i := 54) (by rfl), by decide, by decide⟩
def bk_X4_readStretch_0 : List me_I := [(2, 0, 2, [], 1, 0, 0), (10, 0, 0, [], 1, 0, 0), (19, 4, 1, [], 3, 0, 145), (0, 1, 0, [], 1, 0, 0), (4, 0, 0, [], 1, 0, 0), (20, 4, 1, [], 3, 0, 145), (2, 0, 2, [], 1, 0, 0), (0, 1, 0, [], 1, 0, 0), (2, 0, 2, [], 1, 0, 0), (19, 4, 5, [], 3, 0, 150), (19, 3, 2, [], 3, 0, 103), (2, 1, 0, [], 1, 0, 0), (21, 0, 0, [], 1, 0, 0), (29, 61, 2, [4, 339, 3], 3, 0, 337), (3, 2, 0, [], 1, 0, 0), (2, 2, 0, [], 1, 0, 0), (0, 9, 1, [], 2, 0, 0), (15, 33, 1, [], 3, 0, 0), (0, 0, 0, [], 1, 0, 0), (34, 0, 0, [], 1, 0, 0)]
def bk_X4_readStretch_33 : List me_I := [(2, 0, 2, [], 1, 0, 0), (0, 2, 0, [], 1, 0, 0), (0, 4, 0, [], 1, 0, 0), (29, 61, 2, [4, 339, 3], 3, 0, 337), (3, 3, 0, [], 1, 0, 0), (2, 3, 0, [], 1, 0, 0), (0, 9, 1, [], 2, 0, 0), (15, 48, 1, [], 3, 0, 0), (0, 0, 0, [], 1, 0, 0), (34, 0, 0, [], 1, 0, 0)]
def bk_X4_readStretch_48 : List me_I := [(2, 0, 2, [], 1, 0, 0), (19, 4, 5, [], 3, 0, 150), (2, 1, 0, [], 1, 0, 0), (2, 2, 0, [], 1, 0, 0), (2, 3, 0, [], 1, 0, 0), (29, 50, 3, [3, 346, 347], 3, 0, 357), (0, 1, 0, [], 1, 0, 0), (34, 0, 0, [], 1, 0, 0)]
def cd_X4_readStretch : List (Nat × List me_I) := [(0, bk_X4_readStretch_0), (33, bk_X4_readStretch_33), (48, bk_X4_readStretch_48)]
theorem bq_X4_readStretch_0 : me_bk cd_X4_readStretch 0 = bk_X4_readStretch_0 := rfl
theorem bq_X4_readStretch_33 : me_bk cd_X4_readStretch 33 = bk_X4_readStretch_33 := rfl
theorem bq_X4_readStretch_48 : me_bk cd_X4_readStretch 48 = bk_X4_readStretch_48 := rfl
set_option maxRecDepth 100000 in
theorem ck_X4_readStretch : cd_X4_readStretch.all (fun q => me_bck mt_nm RX4 cX4_readStretch 4 (some .boolean) [50, 61] 0 q.2 q.1) = true := by decide +kernel
set_option maxRecDepth 100000 in
theorem cl_X4_readStretch {l : Launch} {R : Room} {fr lo mc : Nat} {sp : me_P} (h : me_M l yX4_readStretch (.code yX4_readStretch cX4_readStretch 4 (some .boolean)) fr lo mc sp) (h1 : fr + 1 ≤ R.frames) (h2 : lo + 23 ≤ R.locals) : me_cal mt_nm l R 64 (mc, sp) := ⟨cX4_readStretch, 4, (some .boolean), fr, lo, h, List.mem_of_getElem? (i := 356) (by rfl), h1, by omega, List.mem_of_getElem? (i := 54) (by rfl), by decide, by decide⟩
def bk_X4_readPass_0 : List me_I := [(2, 0, 2, [], 1, 0, 0), (10, 0, 0, [], 1, 0, 0), (19, 4, 1, [], 3, 0, 145), (0, 1, 0, [], 1, 0, 0), (4, 0, 0, [], 1, 0, 0), (20, 4, 1, [], 3, 0, 145), (2, 0, 2, [], 1, 0, 0), (0, 1, 0, [], 1, 0, 0), (0, 4, 0, [], 1, 0, 0), (29, 61, 2, [4, 339, 3], 3, 0, 337), (3, 2, 0, [], 1, 0, 0), (2, 2, 0, [], 1, 0, 0), (0, 9, 1, [], 2, 0, 0), (15, 25, 1, [], 3, 0, 0), (0, 0, 0, [], 1, 0, 0), (34, 0, 0, [], 1, 0, 0)]
def bk_X4_readPass_25 : List me_I := [(2, 0, 2, [], 1, 0, 0), (19, 4, 5, [], 3, 0, 150), (2, 1, 0, [], 1, 0, 0), (2, 2, 0, [], 1, 0, 0), (0, 1, 0, [], 1, 0, 0), (29, 51, 3, [3, 363, 364], 3, 0, 362), (0, 1, 0, [], 1, 0, 0), (34, 0, 0, [], 1, 0, 0)]
def cd_X4_readPass : List (Nat × List me_I) := [(0, bk_X4_readPass_0), (25, bk_X4_readPass_25)]
theorem bq_X4_readPass_0 : me_bk cd_X4_readPass 0 = bk_X4_readPass_0 := rfl
theorem bq_X4_readPass_25 : me_bk cd_X4_readPass 25 = bk_X4_readPass_25 := rfl
set_option maxRecDepth 100000 in
theorem ck_X4_readPass : cd_X4_readPass.all (fun q => me_bck mt_nm RX4 cX4_readPass 3 (some .boolean) [51, 61] 0 q.2 q.1) = true := by decide +kernel
set_option maxRecDepth 100000 in
theorem cl_X4_readPass {l : Launch} {R : Room} {fr lo mc : Nat} {sp : me_P} (h : me_M l yX4_readPass (.code yX4_readPass cX4_readPass 3 (some .boolean)) fr lo mc sp) (h1 : fr + 1 ≤ R.frames) (h2 : lo + 22 ≤ R.locals) : me_cal mt_nm l R 65 (mc, sp) := ⟨cX4_readPass, 3, (some .boolean), fr, lo, h, List.mem_of_getElem? (i := 361) (by rfl), h1, by omega, List.mem_of_getElem? (i := 54) (by rfl), by decide, by decide⟩
def bk_X4_readOpening_0 : List me_I := [(2, 0, 2, [], 1, 0, 0), (19, 4, 2, [], 3, 0, 146), (14, 30, 1, [], 3, 0, 0), (2, 0, 2, [], 1, 0, 0), (19, 4, 5, [], 3, 0, 150), (19, 3, 1, [], 3, 0, 99), (0, 4, 0, [], 1, 0, 0), (15, 30, 3, [], 3, 0, 0), (2, 0, 2, [], 1, 0, 0), (19, 4, 5, [], 3, 0, 150), (19, 3, 0, [], 3, 0, 96), (0, 24, 0, [], 2, 0, 0), (15, 32, 2, [], 3, 0, 0)]
def bk_X4_readOpening_30 : List me_I := [(0, 0, 0, [], 1, 0, 0), (34, 0, 0, [], 1, 0, 0)]
def bk_X4_readOpening_32 : List me_I := [(2, 0, 2, [], 1, 0, 0), (10, 0, 0, [], 1, 0, 0), (19, 4, 1, [], 3, 0, 145), (0, 1, 0, [], 1, 0, 0), (4, 0, 0, [], 1, 0, 0), (20, 4, 1, [], 3, 0, 145), (2, 0, 2, [], 1, 0, 0), (0, 1, 0, [], 1, 0, 0), (20, 4, 2, [], 3, 0, 146), (2, 0, 2, [], 1, 0, 0), (2, 0, 2, [], 1, 0, 0), (19, 4, 5, [], 3, 0, 150), (19, 3, 0, [], 3, 0, 96), (20, 4, 3, [], 3, 0, 147), (0, 1, 0, [], 1, 0, 0), (34, 0, 0, [], 1, 0, 0)]
def cd_X4_readOpening : List (Nat × List me_I) := [(0, bk_X4_readOpening_0), (30, bk_X4_readOpening_30), (32, bk_X4_readOpening_32)]
theorem bq_X4_readOpening_0 : me_bk cd_X4_readOpening 0 = bk_X4_readOpening_0 := rfl
theorem bq_X4_readOpening_30 : me_bk cd_X4_readOpening 30 = bk_X4_readOpening_30 := rfl
theorem bq_X4_readOpening_32 : me_bk cd_X4_readOpening 32 = bk_X4_readOpening_32 := rfl
set_option maxRecDepth 100000 in
theorem ck_X4_readOpening : cd_X4_readOpening.all (fun q => me_bck mt_nm RX4 cX4_readOpening 1 (some .boolean) [] 0 q.2 q.1) = true := by decide +kernel
set_option maxRecDepth 100000 in
theorem cl_X4_readOpening {l : Launch} {R : Room} {fr lo mc : Nat} {sp : me_P} (h : me_M l yX4_readOpening (.code yX4_readOpening cX4_readOpening 1 (some .boolean)) fr lo mc sp) (h1 : fr + 1 ≤ R.frames) (h2 : lo + 20 ≤ R.locals) : me_cal mt_nm l R 66 (mc, sp) := ⟨cX4_readOpening, 1, (some .boolean), fr, lo, h, List.mem_of_getElem? (i := 369) (by rfl), h1, by omega, List.mem_of_getElem? (i := 54) (by rfl), by decide, by decide⟩
def bk_X4_readClosing_0 : List me_I := [(2, 0, 2, [], 1, 0, 0), (19, 4, 2, [], 3, 0, 146), (14, 21, 0, [], 3, 0, 0), (2, 0, 2, [], 1, 0, 0), (19, 4, 5, [], 3, 0, 150), (19, 3, 0, [], 3, 0, 96), (2, 0, 2, [], 1, 0, 0), (19, 4, 3, [], 3, 0, 147), (15, 23, 4, [], 3, 0, 0)]
def bk_X4_readClosing_21 : List me_I := [(0, 0, 0, [], 1, 0, 0), (34, 0, 0, [], 1, 0, 0)]
def bk_X4_readClosing_23 : List me_I := [(2, 0, 2, [], 1, 0, 0), (10, 0, 0, [], 1, 0, 0), (19, 4, 1, [], 3, 0, 145), (0, 1, 0, [], 1, 0, 0), (4, 0, 0, [], 1, 0, 0), (20, 4, 1, [], 3, 0, 145), (2, 0, 2, [], 1, 0, 0), (0, 2, 0, [], 1, 0, 0), (0, 4, 0, [], 1, 0, 0), (29, 61, 2, [4, 339, 3], 3, 0, 337), (3, 1, 0, [], 1, 0, 0), (2, 1, 0, [], 1, 0, 0), (0, 9, 1, [], 2, 0, 0), (15, 48, 1, [], 3, 0, 0), (0, 0, 0, [], 1, 0, 0), (34, 0, 0, [], 1, 0, 0)]
def bk_X4_readClosing_48 : List me_I := [(2, 0, 2, [], 1, 0, 0), (19, 4, 5, [], 3, 0, 150), (2, 0, 2, [], 1, 0, 0), (19, 4, 3, [], 3, 0, 147), (2, 0, 2, [], 1, 0, 0), (19, 4, 5, [], 3, 0, 150), (19, 3, 0, [], 3, 0, 96), (0, 1, 0, [], 1, 0, 0), (4, 1, 0, [], 1, 0, 0), (2, 1, 0, [], 1, 0, 0), (29, 53, 3, [3, 375, 376], 3, 0, 374), (12, 0, 0, [], 1, 0, 0), (2, 0, 2, [], 1, 0, 0), (0, 0, 0, [], 1, 0, 0), (20, 4, 2, [], 3, 0, 146), (0, 1, 0, [], 1, 0, 0), (34, 0, 0, [], 1, 0, 0)]
def cd_X4_readClosing : List (Nat × List me_I) := [(0, bk_X4_readClosing_0), (21, bk_X4_readClosing_21), (23, bk_X4_readClosing_23), (48, bk_X4_readClosing_48)]
theorem bq_X4_readClosing_0 : me_bk cd_X4_readClosing 0 = bk_X4_readClosing_0 := rfl
theorem bq_X4_readClosing_21 : me_bk cd_X4_readClosing 21 = bk_X4_readClosing_21 := rfl
theorem bq_X4_readClosing_23 : me_bk cd_X4_readClosing 23 = bk_X4_readClosing_23 := rfl
theorem bq_X4_readClosing_48 : me_bk cd_X4_readClosing 48 = bk_X4_readClosing_48 := rfl
set_option maxRecDepth 100000 in
theorem ck_X4_readClosing : cd_X4_readClosing.all (fun q => me_bck mt_nm RX4 cX4_readClosing 2 (some .boolean) [53, 61] 0 q.2 q.1) = true := by decide +kernel
set_option maxRecDepth 100000 in
theorem cl_X4_readClosing {l : Launch} {R : Room} {fr lo mc : Nat} {sp : me_P} (h : me_M l yX4_readClosing (.code yX4_readClosing cX4_readClosing 2 (some .boolean)) fr lo mc sp) (h1 : fr + 1 ≤ R.frames) (h2 : lo + 21 ≤ R.locals) : me_cal mt_nm l R 67 (mc, sp) := ⟨cX4_readClosing, 2, (some .boolean), fr, lo, h, List.mem_of_getElem? (i := 373) (by rfl), h1, by omega, List.mem_of_getElem? (i := 54) (by rfl), by decide, by decide⟩
def bk_X5_fill_0 : List me_I := [(2, 0, 2, [], 1, 0, 0), (2, 1, 2, [], 1, 0, 0), (19, 3, 0, [], 3, 0, 92), (20, 5, 0, [], 3, 0, 233), (0, 0, 0, [], 1, 0, 0), (3, 2, 0, [], 1, 0, 0)]
def bk_X5_fill_10 : List me_I := [(2, 2, 0, [], 1, 0, 0), (2, 0, 2, [], 1, 0, 0), (19, 5, 0, [], 3, 0, 233), (15, 52, 3, [], 3, 0, 0), (2, 0, 2, [], 1, 0, 0), (19, 5, 1, [], 3, 0, 234), (2, 2, 0, [], 1, 0, 0), (2, 1, 2, [], 1, 0, 0), (2, 2, 0, [], 1, 0, 0), (29, 42, 1, [3, 569, 570], 3, 0, 898), (2, 1, 2, [], 1, 0, 0), (2, 2, 0, [], 1, 0, 0), (29, 45, 1, [3, 900, 901], 3, 0, 899), (4, 2, 0, [], 1, 0, 0), (22, 0, 0, [], 1, 0, 0), (2, 0, 2, [], 1, 0, 0), (19, 5, 2, [], 3, 0, 235), (2, 2, 0, [], 1, 0, 0), (2, 1, 2, [], 1, 0, 0), (2, 2, 0, [], 1, 0, 0), (29, 39, 1, [3, 561, 562], 3, 0, 904), (22, 0, 0, [], 1, 0, 0), (13, 2, 1, [], 3, 0, 0), (16, 10, 0, [], 3, 0, 0)]
def bk_X5_fill_52 : List me_I := [(31, 0, 0, [], 1, 0, 0)]
def cd_X5_fill : List (Nat × List me_I) := [(0, bk_X5_fill_0), (10, bk_X5_fill_10), (52, bk_X5_fill_52)]
theorem bq_X5_fill_0 : me_bk cd_X5_fill 0 = bk_X5_fill_0 := rfl
theorem bq_X5_fill_10 : me_bk cd_X5_fill 10 = bk_X5_fill_10 := rfl
theorem bq_X5_fill_52 : me_bk cd_X5_fill 52 = bk_X5_fill_52 := rfl
set_option maxRecDepth 100000 in
theorem ck_X5_fill : cd_X5_fill.all (fun q => me_bck mt_nm RX5 cX5_fill 3 none [39, 42, 45] 0 q.2 q.1) = true := by decide +kernel
set_option maxRecDepth 100000 in
theorem cl_X5_fill {l : Launch} {R : Room} {fr lo mc : Nat} {sp : me_P} (h : me_M l yX5_fill (.code yX5_fill cX5_fill 3 none) fr lo mc sp) (h1 : fr + 1 ≤ R.frames) (h2 : lo + 22 ≤ R.locals) : me_cal mt_nm l R 69 (mc, sp) := ⟨cX5_fill, 3, none, fr, lo, h, List.mem_of_getElem? (i := 897) (by rfl), h1, by omega, List.mem_of_getElem? (i := 58) (by rfl), by decide, by decide⟩
def bk_X5_timeWithout_0 : List me_I := [(2, 1, 0, [], 1, 0, 0), (2, 2, 0, [], 1, 0, 0), (4, 7, 0, [], 1, 0, 0), (0, 1, 0, [], 1, 0, 0), (4, 3, 0, [], 1, 0, 0), (0, 1, 0, [], 1, 0, 0), (15, 11, 1, [], 3, 0, 0), (1, 0, 0, [], 1, 0, 0), (33, 0, 0, [], 1, 0, 0)]
def bk_X5_timeWithout_11 : List me_I := [(2, 0, 2, [], 1, 0, 0), (19, 5, 1, [], 3, 0, 234), (2, 2, 0, [], 1, 0, 0), (21, 0, 0, [], 1, 0, 0), (7, 0, 0, [], 1, 0, 0), (2, 0, 2, [], 1, 0, 0), (19, 5, 2, [], 3, 0, 235), (2, 2, 0, [], 1, 0, 0), (21, 0, 0, [], 1, 0, 0), (2, 3, 0, [], 1, 0, 0), (4, 2, 0, [], 1, 0, 0), (0, 100, 0, [], 2, 0, 0), (4, 8, 0, [], 1, 0, 0), (41, 121, 1, [573], 3, 0, 913), (7, 0, 0, [], 1, 0, 0), (5, 2, 0, [], 1, 0, 0), (33, 0, 0, [], 1, 0, 0)]
def cd_X5_timeWithout : List (Nat × List me_I) := [(0, bk_X5_timeWithout_0), (11, bk_X5_timeWithout_11)]
theorem bq_X5_timeWithout_0 : me_bk cd_X5_timeWithout 0 = bk_X5_timeWithout_0 := rfl
theorem bq_X5_timeWithout_11 : me_bk cd_X5_timeWithout 11 = bk_X5_timeWithout_11 := rfl
set_option maxRecDepth 100000 in
theorem ck_X5_timeWithout : cd_X5_timeWithout.all (fun q => me_bck mt_nm RX5 cX5_timeWithout 4 (some .long) [121] 0 q.2 q.1) = true := by decide +kernel
set_option maxRecDepth 100000 in
theorem cl_X5_timeWithout {l : Launch} {R : Room} {fr lo mc : Nat} {sp : me_P} (h : me_M l yX5_timeWithout (.code yX5_timeWithout cX5_timeWithout 4 (some .long)) fr lo mc sp) (h1 : fr + 1 ≤ R.frames) (h2 : lo + 23 ≤ R.locals) : me_cal mt_nm l R 70 (mc, sp) := ⟨cX5_timeWithout, 4, (some .long), fr, lo, h, List.mem_of_getElem? (i := 912) (by rfl), h1, by omega, List.mem_of_getElem? (i := 58) (by rfl), by decide, by decide⟩
def bk_X5_endWithout_0 : List me_I := [(1, 0, 0, [], 1, 0, 0), (3, 3, 1, [], 1, 0, 0), (0, 0, 0, [], 1, 0, 0), (3, 5, 0, [], 2, 0, 0)]
def bk_X5_endWithout_5 : List me_I := [(2, 5, 0, [], 2, 0, 0), (2, 0, 2, [], 1, 0, 0), (19, 5, 0, [], 3, 0, 233), (15, 31, 3, [], 3, 0, 0), (2, 3, 1, [], 1, 0, 0), (2, 0, 2, [], 1, 0, 0), (2, 1, 0, [], 1, 0, 0), (2, 5, 0, [], 2, 0, 0), (2, 2, 0, [], 1, 0, 0), (29, 70, 3, [5, 911, 17], 3, 0, 909), (5, 0, 0, [], 1, 0, 0), (3, 3, 1, [], 1, 0, 0), (13, 5, 1, [], 3, 0, 0), (16, 5, 0, [], 3, 0, 0)]
def bk_X5_endWithout_31 : List me_I := [(2, 3, 1, [], 1, 0, 0), (33, 0, 0, [], 1, 0, 0)]
def cd_X5_endWithout : List (Nat × List me_I) := [(0, bk_X5_endWithout_0), (5, bk_X5_endWithout_5), (31, bk_X5_endWithout_31)]
theorem bq_X5_endWithout_0 : me_bk cd_X5_endWithout 0 = bk_X5_endWithout_0 := rfl
theorem bq_X5_endWithout_5 : me_bk cd_X5_endWithout 5 = bk_X5_endWithout_5 := rfl
theorem bq_X5_endWithout_31 : me_bk cd_X5_endWithout 31 = bk_X5_endWithout_31 := rfl
set_option maxRecDepth 100000 in
theorem ck_X5_endWithout : cd_X5_endWithout.all (fun q => me_bck mt_nm RX5 cX5_endWithout 6 (some .long) [70] 0 q.2 q.1) = true := by decide +kernel
set_option maxRecDepth 100000 in
theorem cl_X5_endWithout {l : Launch} {R : Room} {fr lo mc : Nat} {sp : me_P} (h : me_M l yX5_endWithout (.code yX5_endWithout cX5_endWithout 6 (some .long)) fr lo mc sp) (h1 : fr + 1 ≤ R.frames) (h2 : lo + 25 ≤ R.locals) : me_cal mt_nm l R 71 (mc, sp) := ⟨cX5_endWithout, 6, (some .long), fr, lo, h, List.mem_of_getElem? (i := 908) (by rfl), h1, by omega, List.mem_of_getElem? (i := 58) (by rfl), by decide, by decide⟩
def bk_X5_longestWithout_0 : List me_I := [(0, 9, 1, [], 2, 0, 0), (3, 2, 0, [], 1, 0, 0), (1, 0, 0, [], 1, 0, 0), (3, 3, 1, [], 1, 0, 0), (0, 0, 0, [], 1, 0, 0), (3, 5, 0, [], 2, 0, 0)]
def bk_X5_longestWithout_8 : List me_I := [(2, 5, 0, [], 2, 0, 0), (2, 0, 2, [], 1, 0, 0), (19, 5, 0, [], 3, 0, 233), (15, 47, 3, [], 3, 0, 0), (2, 0, 2, [], 1, 0, 0), (2, 1, 0, [], 1, 0, 0), (2, 5, 0, [], 2, 0, 0), (0, 100, 0, [], 2, 0, 0), (29, 70, 3, [5, 911, 17], 3, 0, 909), (3, 6, 1, [], 2, 0, 0), (2, 6, 1, [], 2, 0, 0), (2, 3, 1, [], 1, 0, 0), (9, 0, 0, [], 1, 0, 0), (14, 41, 5, [], 3, 0, 0), (2, 6, 1, [], 2, 0, 0), (3, 3, 1, [], 1, 0, 0), (2, 5, 0, [], 2, 0, 0), (3, 2, 0, [], 1, 0, 0)]
def bk_X5_longestWithout_41 : List me_I := [(13, 5, 1, [], 3, 0, 0), (16, 8, 0, [], 3, 0, 0)]
def bk_X5_longestWithout_47 : List me_I := [(2, 2, 0, [], 1, 0, 0), (32, 0, 0, [], 1, 0, 0)]
def cd_X5_longestWithout : List (Nat × List me_I) := [(0, bk_X5_longestWithout_0), (8, bk_X5_longestWithout_8), (41, bk_X5_longestWithout_41), (47, bk_X5_longestWithout_47)]
theorem bq_X5_longestWithout_0 : me_bk cd_X5_longestWithout 0 = bk_X5_longestWithout_0 := rfl
theorem bq_X5_longestWithout_8 : me_bk cd_X5_longestWithout 8 = bk_X5_longestWithout_8 := rfl
theorem bq_X5_longestWithout_41 : me_bk cd_X5_longestWithout 41 = bk_X5_longestWithout_41 := rfl
theorem bq_X5_longestWithout_47 : me_bk cd_X5_longestWithout 47 = bk_X5_longestWithout_47 := rfl
set_option maxRecDepth 100000 in
theorem ck_X5_longestWithout : cd_X5_longestWithout.all (fun q => me_bck mt_nm RX5 cX5_longestWithout 8 (some .int) [70] 0 q.2 q.1) = true := by decide +kernel
set_option maxRecDepth 100000 in
theorem cl_X5_longestWithout {l : Launch} {R : Room} {fr lo mc : Nat} {sp : me_P} (h : me_M l yX5_longestWithout (.code yX5_longestWithout cX5_longestWithout 8 (some .int)) fr lo mc sp) (h1 : fr + 1 ≤ R.frames) (h2 : lo + 27 ≤ R.locals) : me_cal mt_nm l R 72 (mc, sp) := ⟨cX5_longestWithout, 8, (some .int), fr, lo, h, List.mem_of_getElem? (i := 924) (by rfl), h1, by omega, List.mem_of_getElem? (i := 58) (by rfl), by decide, by decide⟩
def bk_J6_bitCount_0f7a4_0 : List me_I := [(2, 0, 0, [], 1, 0, 0), (2, 0, 0, [], 1, 0, 0), (0, 1, 0, [], 1, 0, 0), (4, 10, 0, [], 1, 0, 0), (0, 1431655765, 0, [], 3, 0, 872), (4, 3, 0, [], 1, 0, 0), (4, 1, 0, [], 1, 0, 0), (3, 0, 0, [], 1, 0, 0), (2, 0, 0, [], 1, 0, 0), (0, 858993459, 0, [], 3, 0, 873), (4, 3, 0, [], 1, 0, 0), (2, 0, 0, [], 1, 0, 0), (0, 2, 0, [], 1, 0, 0), (4, 10, 0, [], 1, 0, 0), (0, 858993459, 0, [], 3, 0, 873), (4, 3, 0, [], 1, 0, 0), (4, 0, 0, [], 1, 0, 0), (3, 0, 0, [], 1, 0, 0), (2, 0, 0, [], 1, 0, 0), (2, 0, 0, [], 1, 0, 0), (0, 4, 0, [], 1, 0, 0), (4, 10, 0, [], 1, 0, 0), (4, 0, 0, [], 1, 0, 0), (0, 252645135, 0, [], 3, 0, 874), (4, 3, 0, [], 1, 0, 0), (3, 0, 0, [], 1, 0, 0), (2, 0, 0, [], 1, 0, 0), (2, 0, 0, [], 1, 0, 0), (0, 8, 0, [], 2, 0, 0), (4, 10, 0, [], 1, 0, 0), (4, 0, 0, [], 1, 0, 0), (3, 0, 0, [], 1, 0, 0), (2, 0, 0, [], 1, 0, 0), (2, 0, 0, [], 1, 0, 0), (0, 16, 0, [], 2, 0, 0), (4, 10, 0, [], 1, 0, 0), (4, 0, 0, [], 1, 0, 0), (3, 0, 0, [], 1, 0, 0), (2, 0, 0, [], 1, 0, 0), (0, 63, 0, [], 2, 0, 0), (4, 3, 0, [], 1, 0, 0), (32, 0, 0, [], 1, 0, 0)]
def cd_J6_bitCount_0f7a4 : List (Nat × List me_I) := [(0, bk_J6_bitCount_0f7a4_0)]
theorem bq_J6_bitCount_0f7a4_0 : me_bk cd_J6_bitCount_0f7a4 0 = bk_J6_bitCount_0f7a4_0 := rfl
set_option maxRecDepth 100000 in
theorem ck_J6_bitCount_0f7a4 : cd_J6_bitCount_0f7a4.all (fun q => me_bck mt_nm RJ6 cJ6_bitCount_0f7a4 1 (some .int) [] 0 q.2 q.1) = true := by decide +kernel
set_option maxRecDepth 100000 in
theorem cl_J6_bitCount_0f7a4 {l : Launch} {R : Room} {fr lo mc : Nat} {sp : me_P} (h : me_M l yJ6_bitCount_0f7a4 (.code yJ6_bitCount_0f7a4 cJ6_bitCount_0f7a4 1 (some .int)) fr lo mc sp) (h1 : fr + 1 ≤ R.frames) (h2 : lo + 20 ≤ R.locals) : me_cal mt_nm l R 199 (mc, sp) := ⟨cJ6_bitCount_0f7a4, 1, (some .int), fr, lo, h, List.mem_of_getElem? (i := 871) (by rfl), h1, by omega, List.mem_of_getElem? (i := 70) (by rfl), by decide, by decide⟩
def bk_J7_fill_53178_0 : List me_I := [(0, 0, 0, [], 1, 0, 0), (3, 2, 0, [], 1, 0, 0), (2, 0, 2, [], 1, 0, 0), (28, 0, 0, [], 1, 0, 0), (3, 3, 0, [], 1, 0, 0)]
def bk_J7_fill_53178_5 : List me_I := [(2, 2, 0, [], 1, 0, 0), (2, 3, 0, [], 1, 0, 0), (15, 20, 3, [], 3, 0, 0), (2, 0, 2, [], 1, 0, 0), (2, 2, 0, [], 1, 0, 0), (2, 1, 0, [], 1, 0, 0), (22, 0, 0, [], 1, 0, 0), (13, 2, 1, [], 3, 0, 0), (16, 5, 0, [], 3, 0, 0)]
def bk_J7_fill_53178_20 : List me_I := [(31, 0, 0, [], 1, 0, 0)]
def cd_J7_fill_53178 : List (Nat × List me_I) := [(0, bk_J7_fill_53178_0), (5, bk_J7_fill_53178_5), (20, bk_J7_fill_53178_20)]
theorem bq_J7_fill_53178_0 : me_bk cd_J7_fill_53178 0 = bk_J7_fill_53178_0 := rfl
theorem bq_J7_fill_53178_5 : me_bk cd_J7_fill_53178 5 = bk_J7_fill_53178_5 := rfl
theorem bq_J7_fill_53178_20 : me_bk cd_J7_fill_53178 20 = bk_J7_fill_53178_20 := rfl
set_option maxRecDepth 100000 in
theorem ck_J7_fill_53178 : cd_J7_fill_53178.all (fun q => me_bck mt_nm RJ7 cJ7_fill_53178 4 none [] 0 q.2 q.1) = true := by decide +kernel
set_option maxRecDepth 100000 in
theorem cl_J7_fill_53178 {l : Launch} {R : Room} {fr lo mc : Nat} {sp : me_P} (h : me_M l yJ7_fill_53178 (.code yJ7_fill_53178 cJ7_fill_53178 4 none) fr lo mc sp) (h1 : fr + 1 ≤ R.frames) (h2 : lo + 23 ≤ R.locals) : me_cal mt_nm l R 201 (mc, sp) := ⟨cJ7_fill_53178, 4, none, fr, lo, h, List.mem_of_getElem? (i := 324) (by rfl), h1, by omega, List.mem_of_getElem? (i := 66) (by rfl), by decide, by decide⟩
