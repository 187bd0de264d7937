def bk_L_append_0 : List me_I := [(2, 2, 2, [], 1, 0, 0), (0, 0, 0, [], 1, 0, 0), (2, 0, 2, [], 1, 0, 0), (2, 1, 0, [], 1, 0, 0), (29, 74, 1, [6, 388, 389], 3, 0, 387), (7, 0, 0, [], 1, 0, 0), (24, 0, 0, [], 1, 0, 0), (16, 18, 0, [], 3, 0, 0)]
def bk_L_append_12 : List me_I := [(3, 3, 2, [], 1, 0, 0), (0, 1, 0, [], 1, 0, 0), (32, 0, 0, [], 1, 0, 0)]
def bk_L_append_15 : List me_I := [(3, 3, 2, [], 1, 0, 0), (0, 2, 0, [], 1, 0, 0), (32, 0, 0, [], 1, 0, 0)]
def bk_L_append_18 : List me_I := [(0, 0, 0, [], 1, 0, 0), (32, 0, 0, [], 1, 0, 0)]
def cd_L_append : List (Nat × List me_I) := [(0, bk_L_append_0), (12, bk_L_append_12), (15, bk_L_append_15), (18, bk_L_append_18)]
theorem bq_L_append_0 : me_bk cd_L_append 0 = bk_L_append_0 := rfl
theorem bq_L_append_12 : me_bk cd_L_append 12 = bk_L_append_12 := rfl
theorem bq_L_append_15 : me_bk cd_L_append 15 = bk_L_append_15 := rfl
theorem bq_L_append_18 : me_bk cd_L_append 18 = bk_L_append_18 := rfl
set_option maxRecDepth 100000 in
theorem ck_L_append : cd_L_append.all (fun q => me_bck mt_nm RL cL_append 4 (some .int) [74] 0 q.2 q.1) = true := by decide +kernel
set_option maxRecDepth 100000 in
theorem cl_L_append {l : Launch} {R : Room} {fr lo mc : Nat} {sp : me_P} (h : me_M l yL_append (.codeWith yL_append cL_append 4 (some .int) [(0, 9, 12, 13), (0, 9, 15, 15)]) fr lo mc sp) (h1 : fr + 1 ≤ R.frames) (h2 : lo + 23 ≤ R.locals) : me_calW mt_nm l R 500 (mc, sp) := ⟨cL_append, 4, (some .int), [(0, 9, 12, 13), (0, 9, 15, 15)], fr, lo, h, List.mem_of_getElem? (i := 384) (by rfl), h1, by omega, List.mem_of_getElem? (i := 52) (by rfl), by decide, by decide⟩
def bk_L_load_0 : List me_I := [(2, 1, 2, [], 1, 0, 0), (0, 0, 0, [], 1, 0, 0), (2, 0, 2, [], 1, 0, 0), (29, 77, 0, [6, 483, 484], 3, 0, 482), (7, 0, 0, [], 1, 0, 0), (24, 0, 0, [], 1, 0, 0), (16, 14, 0, [], 3, 0, 0)]
def bk_L_load_11 : List me_I := [(3, 2, 2, [], 1, 0, 0), (0, 1, 0, [], 1, 0, 0), (32, 0, 0, [], 1, 0, 0)]
def bk_L_load_14 : List me_I := [(0, 0, 0, [], 1, 0, 0), (32, 0, 0, [], 1, 0, 0)]
def cd_L_load : List (Nat × List me_I) := [(0, bk_L_load_0), (11, bk_L_load_11), (14, bk_L_load_14)]
theorem bq_L_load_0 : me_bk cd_L_load 0 = bk_L_load_0 := rfl
theorem bq_L_load_11 : me_bk cd_L_load 11 = bk_L_load_11 := rfl
theorem bq_L_load_14 : me_bk cd_L_load 14 = bk_L_load_14 := rfl
set_option maxRecDepth 100000 in
theorem ck_L_load : cd_L_load.all (fun q => me_bck mt_nm RL cL_load 3 (some .int) [77] 0 q.2 q.1) = true := by decide +kernel
set_option maxRecDepth 100000 in
theorem cl_L_load {l : Launch} {R : Room} {fr lo mc : Nat} {sp : me_P} (h : me_M l yL_load (.codeWith yL_load cL_load 3 (some .int) [(0, 8, 11, 15)]) fr lo mc sp) (h1 : fr + 1 ≤ R.frames) (h2 : lo + 22 ≤ R.locals) : me_calW mt_nm l R 501 (mc, sp) := ⟨cL_load, 3, (some .int), [(0, 8, 11, 15)], fr, lo, h, List.mem_of_getElem? (i := 481) (by rfl), h1, by omega, List.mem_of_getElem? (i := 52) (by rfl), by decide, by decide⟩
def bk_L_about_0 : List me_I := [(2, 2, 2, [], 1, 0, 0), (0, 0, 0, [], 1, 0, 0), (2, 0, 2, [], 1, 0, 0), (2, 1, 0, [], 1, 0, 0), (29, 78, 1, [6, 508, 509], 3, 0, 507), (7, 0, 0, [], 1, 0, 0), (24, 0, 0, [], 1, 0, 0), (16, 15, 0, [], 3, 0, 0)]
def bk_L_about_12 : List me_I := [(3, 3, 2, [], 1, 0, 0), (0, 1, 0, [], 1, 0, 0), (32, 0, 0, [], 1, 0, 0)]
def bk_L_about_15 : List me_I := [(0, 0, 0, [], 1, 0, 0), (32, 0, 0, [], 1, 0, 0)]
def cd_L_about : List (Nat × List me_I) := [(0, bk_L_about_0), (12, bk_L_about_12), (15, bk_L_about_15)]
theorem bq_L_about_0 : me_bk cd_L_about 0 = bk_L_about_0 := rfl
theorem bq_L_about_12 : me_bk cd_L_about 12 = bk_L_about_12 := rfl
theorem bq_L_about_15 : me_bk cd_L_about 15 = bk_L_about_15 := rfl
set_option maxRecDepth 100000 in
theorem ck_L_about : cd_L_about.all (fun q => me_bck mt_nm RL cL_about 4 (some .int) [78] 0 q.2 q.1) = true := by decide +kernel
set_option maxRecDepth 100000 in
theorem cl_L_about {l : Launch} {R : Room} {fr lo mc : Nat} {sp : me_P} (h : me_M l yL_about (.codeWith yL_about cL_about 4 (some .int) [(0, 9, 12, 13)]) fr lo mc sp) (h1 : fr + 1 ≤ R.frames) (h2 : lo + 23 ≤ R.locals) : me_calW mt_nm l R 502 (mc, sp) := ⟨cL_about, 4, (some .int), [(0, 9, 12, 13)], fr, lo, h, List.mem_of_getElem? (i := 506) (by rfl), h1, by omega, List.mem_of_getElem? (i := 52) (by rfl), by decide, by decide⟩
def bk_L_bar_0 : List me_I := [(2, 3, 2, [], 1, 0, 0), (0, 0, 0, [], 1, 0, 0), (2, 0, 2, [], 1, 0, 0), (2, 1, 0, [], 1, 0, 0), (2, 2, 0, [], 1, 0, 0), (29, 79, 2, [6, 533, 534], 3, 0, 532), (7, 0, 0, [], 1, 0, 0), (24, 0, 0, [], 1, 0, 0), (16, 21, 0, [], 3, 0, 0)]
def bk_L_bar_13 : List me_I := [(3, 4, 2, [], 2, 0, 0), (0, 1, 0, [], 1, 0, 0), (32, 0, 0, [], 1, 0, 0)]
def bk_L_bar_17 : List me_I := [(3, 4, 2, [], 2, 0, 0), (0, 2, 0, [], 1, 0, 0), (32, 0, 0, [], 1, 0, 0)]
def bk_L_bar_21 : List me_I := [(0, 0, 0, [], 1, 0, 0), (32, 0, 0, [], 1, 0, 0)]
def cd_L_bar : List (Nat × List me_I) := [(0, bk_L_bar_0), (13, bk_L_bar_13), (17, bk_L_bar_17), (21, bk_L_bar_21)]
theorem bq_L_bar_0 : me_bk cd_L_bar 0 = bk_L_bar_0 := rfl
theorem bq_L_bar_13 : me_bk cd_L_bar 13 = bk_L_bar_13 := rfl
theorem bq_L_bar_17 : me_bk cd_L_bar 17 = bk_L_bar_17 := rfl
theorem bq_L_bar_21 : me_bk cd_L_bar 21 = bk_L_bar_21 := rfl
set_option maxRecDepth 100000 in
theorem ck_L_bar : cd_L_bar.all (fun q => me_bck mt_nm RL cL_bar 5 (some .int) [79] 0 q.2 q.1) = true := by decide +kernel
set_option maxRecDepth 100000 in
theorem cl_L_bar {l : Launch} {R : Room} {fr lo mc : Nat} {sp : me_P} (h : me_M l yL_bar (.codeWith yL_bar cL_bar 5 (some .int) [(0, 10, 13, 28), (0, 10, 17, 13)]) fr lo mc sp) (h1 : fr + 1 ≤ R.frames) (h2 : lo + 24 ≤ R.locals) : me_calW mt_nm l R 503 (mc, sp) := ⟨cL_bar, 5, (some .int), [(0, 10, 13, 28), (0, 10, 17, 13)], fr, lo, h, List.mem_of_getElem? (i := 530) (by rfl), h1, by omega, List.mem_of_getElem? (i := 52) (by rfl), by decide, by decide⟩
def bk_L_stretch_0 : List me_I := [(2, 3, 2, [], 1, 0, 0), (0, 0, 0, [], 1, 0, 0), (2, 0, 2, [], 1, 0, 0), (2, 1, 0, [], 1, 0, 0), (2, 2, 0, [], 1, 0, 0), (29, 80, 2, [6, 581, 582], 3, 0, 580), (7, 0, 0, [], 1, 0, 0), (24, 0, 0, [], 1, 0, 0), (16, 21, 0, [], 3, 0, 0)]
def bk_L_stretch_13 : List me_I := [(3, 4, 2, [], 2, 0, 0), (0, 1, 0, [], 1, 0, 0), (32, 0, 0, [], 1, 0, 0)]
def bk_L_stretch_17 : List me_I := [(3, 4, 2, [], 2, 0, 0), (0, 2, 0, [], 1, 0, 0), (32, 0, 0, [], 1, 0, 0)]
def bk_L_stretch_21 : List me_I := [(0, 0, 0, [], 1, 0, 0), (32, 0, 0, [], 1, 0, 0)]
def cd_L_stretch : List (Nat × List me_I) := [(0, bk_L_stretch_0), (13, bk_L_stretch_13), (17, bk_L_stretch_17), (21, bk_L_stretch_21)]
theorem bq_L_stretch_0 : me_bk cd_L_stretch 0 = bk_L_stretch_0 := rfl
theorem bq_L_stretch_13 : me_bk cd_L_stretch 13 = bk_L_stretch_13 := rfl
theorem bq_L_stretch_17 : me_bk cd_L_stretch 17 = bk_L_stretch_17 := rfl
theorem bq_L_stretch_21 : me_bk cd_L_stretch 21 = bk_L_stretch_21 := rfl
set_option maxRecDepth 100000 in
theorem ck_L_stretch : cd_L_stretch.all (fun q => me_bck mt_nm RL cL_stretch 5 (some .int) [80] 0 q.2 q.1) = true := by decide +kernel
set_option maxRecDepth 100000 in
theorem cl_L_stretch {l : Launch} {R : Room} {fr lo mc : Nat} {sp : me_P} (h : me_M l yL_stretch (.codeWith yL_stretch cL_stretch 5 (some .int) [(0, 10, 13, 28), (0, 10, 17, 13)]) fr lo mc sp) (h1 : fr + 1 ≤ R.frames) (h2 : lo + 24 ≤ R.locals) : me_calW mt_nm l R 504 (mc, sp) := ⟨cL_stretch, 5, (some .int), [(0, 10, 13, 28), (0, 10, 17, 13)], fr, lo, h, List.mem_of_getElem? (i := 579) (by rfl), h1, by omega, List.mem_of_getElem? (i := 52) (by rfl), by decide, by decide⟩
def bk_L_section_0 : List me_I := [(2, 3, 2, [], 1, 0, 0), (0, 0, 0, [], 1, 0, 0), (2, 0, 2, [], 1, 0, 0), (2, 1, 0, [], 1, 0, 0), (2, 2, 0, [], 1, 0, 0), (29, 81, 2, [6, 594, 595], 3, 0, 593), (7, 0, 0, [], 1, 0, 0), (24, 0, 0, [], 1, 0, 0), (16, 21, 0, [], 3, 0, 0)]
def bk_L_section_13 : List me_I := [(3, 4, 2, [], 2, 0, 0), (0, 1, 0, [], 1, 0, 0), (32, 0, 0, [], 1, 0, 0)]
def bk_L_section_17 : List me_I := [(3, 4, 2, [], 2, 0, 0), (0, 2, 0, [], 1, 0, 0), (32, 0, 0, [], 1, 0, 0)]
def bk_L_section_21 : List me_I := [(0, 0, 0, [], 1, 0, 0), (32, 0, 0, [], 1, 0, 0)]
def cd_L_section : List (Nat × List me_I) := [(0, bk_L_section_0), (13, bk_L_section_13), (17, bk_L_section_17), (21, bk_L_section_21)]
theorem bq_L_section_0 : me_bk cd_L_section 0 = bk_L_section_0 := rfl
theorem bq_L_section_13 : me_bk cd_L_section 13 = bk_L_section_13 := rfl
theorem bq_L_section_17 : me_bk cd_L_section 17 = bk_L_section_17 := rfl
theorem bq_L_section_21 : me_bk cd_L_section 21 = bk_L_section_21 := rfl
set_option maxRecDepth 100000 in
theorem ck_L_section : cd_L_section.all (fun q => me_bck mt_nm RL cL_section 5 (some .int) [81] 0 q.2 q.1) = true := by decide +kernel
set_option maxRecDepth 100000 in
theorem cl_L_section {l : Launch} {R : Room} {fr lo mc : Nat} {sp : me_P} (h : me_M l yL_section (.codeWith yL_section cL_section 5 (some .int) [(0, 10, 13, 28), (0, 10, 17, 13)]) fr lo mc sp) (h1 : fr + 1 ≤ R.frames) (h2 : lo + 24 ≤ R.locals) : me_calW mt_nm l R 505 (mc, sp) := ⟨cL_section, 5, (some .int), [(0, 10, 13, 28), (0, 10, 17, 13)], fr, lo, h, List.mem_of_getElem? (i := 592) (by rfl), h1, by omega, List.mem_of_getElem? (i := 52) (by rfl), by decide, by decide⟩
def bk_L_places_0 : List me_I := [(2, 2, 2, [], 1, 0, 0), (0, 0, 0, [], 1, 0, 0), (2, 0, 2, [], 1, 0, 0), (2, 1, 0, [], 1, 0, 0), (29, 82, 1, [6, 611, 612], 3, 0, 610), (7, 0, 0, [], 1, 0, 0), (24, 0, 0, [], 1, 0, 0), (16, 15, 0, [], 3, 0, 0)]
def bk_L_places_12 : List me_I := [(3, 3, 2, [], 1, 0, 0), (0, 1, 0, [], 1, 0, 0), (32, 0, 0, [], 1, 0, 0)]
def bk_L_places_15 : List me_I := [(0, 0, 0, [], 1, 0, 0), (32, 0, 0, [], 1, 0, 0)]
def cd_L_places : List (Nat × List me_I) := [(0, bk_L_places_0), (12, bk_L_places_12), (15, bk_L_places_15)]
theorem bq_L_places_0 : me_bk cd_L_places 0 = bk_L_places_0 := rfl
theorem bq_L_places_12 : me_bk cd_L_places 12 = bk_L_places_12 := rfl
theorem bq_L_places_15 : me_bk cd_L_places 15 = bk_L_places_15 := rfl
set_option maxRecDepth 100000 in
theorem ck_L_places : cd_L_places.all (fun q => me_bck mt_nm RL cL_places 4 (some .int) [82] 0 q.2 q.1) = true := by decide +kernel
set_option maxRecDepth 100000 in
theorem cl_L_places {l : Launch} {R : Room} {fr lo mc : Nat} {sp : me_P} (h : me_M l yL_places (.codeWith yL_places cL_places 4 (some .int) [(0, 9, 12, 28)]) fr lo mc sp) (h1 : fr + 1 ≤ R.frames) (h2 : lo + 23 ≤ R.locals) : me_calW mt_nm l R 506 (mc, sp) := ⟨cL_places, 4, (some .int), [(0, 9, 12, 28)], fr, lo, h, List.mem_of_getElem? (i := 609) (by rfl), h1, by omega, List.mem_of_getElem? (i := 52) (by rfl), by decide, by decide⟩
def bk_L_place_0 : List me_I := [(2, 4, 2, [], 2, 0, 0), (0, 0, 0, [], 1, 0, 0), (2, 0, 2, [], 1, 0, 0), (2, 1, 0, [], 1, 0, 0), (2, 2, 0, [], 1, 0, 0), (2, 3, 0, [], 1, 0, 0), (29, 83, 3, [6, 649, 650], 3, 0, 648), (7, 0, 0, [], 1, 0, 0), (24, 0, 0, [], 1, 0, 0), (16, 23, 0, [], 3, 0, 0)]
def bk_L_place_15 : List me_I := [(3, 5, 2, [], 2, 0, 0), (0, 1, 0, [], 1, 0, 0), (32, 0, 0, [], 1, 0, 0)]
def bk_L_place_19 : List me_I := [(3, 5, 2, [], 2, 0, 0), (0, 2, 0, [], 1, 0, 0), (32, 0, 0, [], 1, 0, 0)]
def bk_L_place_23 : List me_I := [(0, 0, 0, [], 1, 0, 0), (32, 0, 0, [], 1, 0, 0)]
def cd_L_place : List (Nat × List me_I) := [(0, bk_L_place_0), (15, bk_L_place_15), (19, bk_L_place_19), (23, bk_L_place_23)]
theorem bq_L_place_0 : me_bk cd_L_place 0 = bk_L_place_0 := rfl
theorem bq_L_place_15 : me_bk cd_L_place 15 = bk_L_place_15 := rfl
theorem bq_L_place_19 : me_bk cd_L_place 19 = bk_L_place_19 := rfl
theorem bq_L_place_23 : me_bk cd_L_place 23 = bk_L_place_23 := rfl
set_option maxRecDepth 100000 in
theorem ck_L_place : cd_L_place.all (fun q => me_bck mt_nm RL cL_place 6 (some .int) [83] 0 q.2 q.1) = true := by decide +kernel
set_option maxRecDepth 100000 in
theorem cl_L_place {l : Launch} {R : Room} {fr lo mc : Nat} {sp : me_P} (h : me_M l yL_place (.codeWith yL_place cL_place 6 (some .int) [(0, 12, 15, 28), (0, 12, 19, 13)]) fr lo mc sp) (h1 : fr + 1 ≤ R.frames) (h2 : lo + 25 ≤ R.locals) : me_calW mt_nm l R 507 (mc, sp) := ⟨cL_place, 6, (some .int), [(0, 12, 15, 28), (0, 12, 19, 13)], fr, lo, h, List.mem_of_getElem? (i := 647) (by rfl), h1, by omega, List.mem_of_getElem? (i := 52) (by rfl), by decide, by decide⟩
def bk_L_begins_0 : List me_I := [(2, 3, 2, [], 1, 0, 0), (0, 0, 0, [], 1, 0, 0), (2, 0, 2, [], 1, 0, 0), (2, 1, 0, [], 1, 0, 0), (2, 2, 0, [], 1, 0, 0), (29, 84, 2, [6, 661, 662], 3, 0, 660), (24, 0, 0, [], 1, 0, 0), (16, 20, 0, [], 3, 0, 0)]
def bk_L_begins_12 : List me_I := [(3, 4, 2, [], 2, 0, 0), (0, 1, 0, [], 1, 0, 0), (32, 0, 0, [], 1, 0, 0)]
def bk_L_begins_16 : List me_I := [(3, 4, 2, [], 2, 0, 0), (0, 2, 0, [], 1, 0, 0), (32, 0, 0, [], 1, 0, 0)]
def bk_L_begins_20 : List me_I := [(0, 0, 0, [], 1, 0, 0), (32, 0, 0, [], 1, 0, 0)]
def cd_L_begins : List (Nat × List me_I) := [(0, bk_L_begins_0), (12, bk_L_begins_12), (16, bk_L_begins_16), (20, bk_L_begins_20)]
theorem bq_L_begins_0 : me_bk cd_L_begins 0 = bk_L_begins_0 := rfl
theorem bq_L_begins_12 : me_bk cd_L_begins 12 = bk_L_begins_12 := rfl
theorem bq_L_begins_16 : me_bk cd_L_begins 16 = bk_L_begins_16 := rfl
theorem bq_L_begins_20 : me_bk cd_L_begins 20 = bk_L_begins_20 := rfl
set_option maxRecDepth 100000 in
theorem ck_L_begins : cd_L_begins.all (fun q => me_bck mt_nm RL cL_begins 5 (some .int) [84] 0 q.2 q.1) = true := by decide +kernel
set_option maxRecDepth 100000 in
theorem cl_L_begins {l : Launch} {R : Room} {fr lo mc : Nat} {sp : me_P} (h : me_M l yL_begins (.codeWith yL_begins cL_begins 5 (some .int) [(0, 9, 12, 28), (0, 9, 16, 13)]) fr lo mc sp) (h1 : fr + 1 ≤ R.frames) (h2 : lo + 24 ≤ R.locals) : me_calW mt_nm l R 508 (mc, sp) := ⟨cL_begins, 5, (some .int), [(0, 9, 12, 28), (0, 9, 16, 13)], fr, lo, h, List.mem_of_getElem? (i := 659) (by rfl), h1, by omega, List.mem_of_getElem? (i := 52) (by rfl), by decide, by decide⟩
def bk_L_find_0 : List me_I := [(2, 4, 2, [], 2, 0, 0), (0, 0, 0, [], 1, 0, 0), (2, 0, 2, [], 1, 0, 0), (2, 1, 0, [], 1, 0, 0), (2, 2, 0, [], 1, 0, 0), (2, 3, 0, [], 1, 0, 0), (29, 85, 3, [6, 669, 670], 3, 0, 668), (7, 0, 0, [], 1, 0, 0), (24, 0, 0, [], 1, 0, 0), (16, 23, 0, [], 3, 0, 0)]
def bk_L_find_15 : List me_I := [(3, 5, 2, [], 2, 0, 0), (0, 1, 0, [], 1, 0, 0), (32, 0, 0, [], 1, 0, 0)]
def bk_L_find_19 : List me_I := [(3, 5, 2, [], 2, 0, 0), (0, 2, 0, [], 1, 0, 0), (32, 0, 0, [], 1, 0, 0)]
def bk_L_find_23 : List me_I := [(0, 0, 0, [], 1, 0, 0), (32, 0, 0, [], 1, 0, 0)]
def cd_L_find : List (Nat × List me_I) := [(0, bk_L_find_0), (15, bk_L_find_15), (19, bk_L_find_19), (23, bk_L_find_23)]
theorem bq_L_find_0 : me_bk cd_L_find 0 = bk_L_find_0 := rfl
theorem bq_L_find_15 : me_bk cd_L_find 15 = bk_L_find_15 := rfl
theorem bq_L_find_19 : me_bk cd_L_find 19 = bk_L_find_19 := rfl
theorem bq_L_find_23 : me_bk cd_L_find 23 = bk_L_find_23 := rfl
set_option maxRecDepth 100000 in
theorem ck_L_find : cd_L_find.all (fun q => me_bck mt_nm RL cL_find 6 (some .int) [85] 0 q.2 q.1) = true := by decide +kernel
set_option maxRecDepth 100000 in
theorem cl_L_find {l : Launch} {R : Room} {fr lo mc : Nat} {sp : me_P} (h : me_M l yL_find (.codeWith yL_find cL_find 6 (some .int) [(0, 12, 15, 28), (0, 12, 19, 13)]) fr lo mc sp) (h1 : fr + 1 ≤ R.frames) (h2 : lo + 25 ≤ R.locals) : me_calW mt_nm l R 509 (mc, sp) := ⟨cL_find, 6, (some .int), [(0, 12, 15, 28), (0, 12, 19, 13)], fr, lo, h, List.mem_of_getElem? (i := 667) (by rfl), h1, by omega, List.mem_of_getElem? (i := 52) (by rfl), by decide, by decide⟩
def bk_L_at_0 : List me_I := [(2, 4, 2, [], 2, 0, 0), (0, 0, 0, [], 1, 0, 0), (2, 0, 2, [], 1, 0, 0), (2, 1, 0, [], 1, 0, 0), (2, 2, 1, [], 1, 0, 0), (29, 86, 2, [6, 687, 688], 3, 0, 686), (7, 0, 0, [], 1, 0, 0), (24, 0, 0, [], 1, 0, 0), (16, 22, 0, [], 3, 0, 0)]
def bk_L_at_14 : List me_I := [(3, 5, 2, [], 2, 0, 0), (0, 1, 0, [], 1, 0, 0), (32, 0, 0, [], 1, 0, 0)]
def bk_L_at_18 : List me_I := [(3, 5, 2, [], 2, 0, 0), (0, 2, 0, [], 1, 0, 0), (32, 0, 0, [], 1, 0, 0)]
def bk_L_at_22 : List me_I := [(0, 0, 0, [], 1, 0, 0), (32, 0, 0, [], 1, 0, 0)]
def cd_L_at : List (Nat × List me_I) := [(0, bk_L_at_0), (14, bk_L_at_14), (18, bk_L_at_18), (22, bk_L_at_22)]
theorem bq_L_at_0 : me_bk cd_L_at 0 = bk_L_at_0 := rfl
theorem bq_L_at_14 : me_bk cd_L_at 14 = bk_L_at_14 := rfl
theorem bq_L_at_18 : me_bk cd_L_at 18 = bk_L_at_18 := rfl
theorem bq_L_at_22 : me_bk cd_L_at 22 = bk_L_at_22 := rfl
set_option maxRecDepth 100000 in
theorem ck_L_at : cd_L_at.all (fun q => me_bck mt_nm RL cL_at 6 (some .int) [86] 0 q.2 q.1) = true := by decide +kernel
set_option maxRecDepth 100000 in
theorem cl_L_at {l : Launch} {R : Room} {fr lo mc : Nat} {sp : me_P} (h : me_M l yL_at (.codeWith yL_at cL_at 6 (some .int) [(0, 11, 14, 28), (0, 11, 18, 13)]) fr lo mc sp) (h1 : fr + 1 ≤ R.frames) (h2 : lo + 25 ≤ R.locals) : me_calW mt_nm l R 510 (mc, sp) := ⟨cL_at, 6, (some .int), [(0, 11, 14, 28), (0, 11, 18, 13)], fr, lo, h, List.mem_of_getElem? (i := 685) (by rfl), h1, by omega, List.mem_of_getElem? (i := 52) (by rfl), by decide, by decide⟩
def bk_L_nextClick_0 : List me_I := [(2, 4, 2, [], 2, 0, 0), (0, 0, 0, [], 1, 0, 0), (2, 0, 2, [], 1, 0, 0), (2, 1, 0, [], 1, 0, 0), (2, 2, 1, [], 1, 0, 0), (29, 87, 2, [6, 702, 703], 3, 0, 701), (24, 0, 0, [], 1, 0, 0), (16, 21, 0, [], 3, 0, 0)]
def bk_L_nextClick_13 : List me_I := [(3, 5, 2, [], 2, 0, 0), (0, 1, 0, [], 1, 0, 0), (32, 0, 0, [], 1, 0, 0)]
def bk_L_nextClick_17 : List me_I := [(3, 5, 2, [], 2, 0, 0), (0, 2, 0, [], 1, 0, 0), (32, 0, 0, [], 1, 0, 0)]
def bk_L_nextClick_21 : List me_I := [(0, 0, 0, [], 1, 0, 0), (32, 0, 0, [], 1, 0, 0)]
def cd_L_nextClick : List (Nat × List me_I) := [(0, bk_L_nextClick_0), (13, bk_L_nextClick_13), (17, bk_L_nextClick_17), (21, bk_L_nextClick_21)]
theorem bq_L_nextClick_0 : me_bk cd_L_nextClick 0 = bk_L_nextClick_0 := rfl
theorem bq_L_nextClick_13 : me_bk cd_L_nextClick 13 = bk_L_nextClick_13 := rfl
theorem bq_L_nextClick_17 : me_bk cd_L_nextClick 17 = bk_L_nextClick_17 := rfl
theorem bq_L_nextClick_21 : me_bk cd_L_nextClick 21 = bk_L_nextClick_21 := rfl
set_option maxRecDepth 100000 in
theorem ck_L_nextClick : cd_L_nextClick.all (fun q => me_bck mt_nm RL cL_nextClick 6 (some .int) [87] 0 q.2 q.1) = true := by decide +kernel
set_option maxRecDepth 100000 in
theorem cl_L_nextClick {l : Launch} {R : Room} {fr lo mc : Nat} {sp : me_P} (h : me_M l yL_nextClick (.codeWith yL_nextClick cL_nextClick 6 (some .int) [(0, 10, 13, 28), (0, 10, 17, 13)]) fr lo mc sp) (h1 : fr + 1 ≤ R.frames) (h2 : lo + 25 ≤ R.locals) : me_calW mt_nm l R 511 (mc, sp) := ⟨cL_nextClick, 6, (some .int), [(0, 10, 13, 28), (0, 10, 17, 13)], fr, lo, h, List.mem_of_getElem? (i := 700) (by rfl), h1, by omega, List.mem_of_getElem? (i := 52) (by rfl), by decide, by decide⟩
def bk_L_clicks_0 : List me_I := [(2, 6, 2, [], 2, 0, 0), (0, 0, 0, [], 1, 0, 0), (2, 0, 2, [], 1, 0, 0), (2, 1, 0, [], 1, 0, 0), (2, 2, 1, [], 1, 0, 0), (2, 4, 1, [], 2, 0, 0), (29, 88, 3, [6, 718, 719], 3, 0, 717), (7, 0, 0, [], 1, 0, 0), (24, 0, 0, [], 1, 0, 0), (16, 24, 0, [], 3, 0, 0)]
def bk_L_clicks_16 : List me_I := [(3, 7, 2, [], 2, 0, 0), (0, 1, 0, [], 1, 0, 0), (32, 0, 0, [], 1, 0, 0)]
def bk_L_clicks_20 : List me_I := [(3, 7, 2, [], 2, 0, 0), (0, 2, 0, [], 1, 0, 0), (32, 0, 0, [], 1, 0, 0)]
def bk_L_clicks_24 : List me_I := [(0, 0, 0, [], 1, 0, 0), (32, 0, 0, [], 1, 0, 0)]
def cd_L_clicks : List (Nat × List me_I) := [(0, bk_L_clicks_0), (16, bk_L_clicks_16), (20, bk_L_clicks_20), (24, bk_L_clicks_24)]
theorem bq_L_clicks_0 : me_bk cd_L_clicks 0 = bk_L_clicks_0 := rfl
theorem bq_L_clicks_16 : me_bk cd_L_clicks 16 = bk_L_clicks_16 := rfl
theorem bq_L_clicks_20 : me_bk cd_L_clicks 20 = bk_L_clicks_20 := rfl
theorem bq_L_clicks_24 : me_bk cd_L_clicks 24 = bk_L_clicks_24 := rfl
set_option maxRecDepth 100000 in
theorem ck_L_clicks : cd_L_clicks.all (fun q => me_bck mt_nm RL cL_clicks 8 (some .int) [88] 0 q.2 q.1) = true := by decide +kernel
set_option maxRecDepth 100000 in
theorem cl_L_clicks {l : Launch} {R : Room} {fr lo mc : Nat} {sp : me_P} (h : me_M l yL_clicks (.codeWith yL_clicks cL_clicks 8 (some .int) [(0, 13, 16, 28), (0, 13, 20, 13)]) fr lo mc sp) (h1 : fr + 1 ≤ R.frames) (h2 : lo + 27 ≤ R.locals) : me_calW mt_nm l R 512 (mc, sp) := ⟨cL_clicks, 8, (some .int), [(0, 13, 16, 28), (0, 13, 20, 13)], fr, lo, h, List.mem_of_getElem? (i := 716) (by rfl), h1, by omega, List.mem_of_getElem? (i := 52) (by rfl), by decide, by decide⟩
def bk_L_missed_0 : List me_I := [(2, 2, 2, [], 1, 0, 0), (0, 0, 0, [], 1, 0, 0), (2, 0, 2, [], 1, 0, 0), (2, 1, 0, [], 1, 0, 0), (29, 89, 1, [6, 727, 728], 3, 0, 726), (7, 0, 0, [], 1, 0, 0), (24, 0, 0, [], 1, 0, 0), (16, 15, 0, [], 3, 0, 0)]
def bk_L_missed_12 : List me_I := [(3, 3, 2, [], 1, 0, 0), (0, 1, 0, [], 1, 0, 0), (32, 0, 0, [], 1, 0, 0)]
def bk_L_missed_15 : List me_I := [(0, 0, 0, [], 1, 0, 0), (32, 0, 0, [], 1, 0, 0)]
def cd_L_missed : List (Nat × List me_I) := [(0, bk_L_missed_0), (12, bk_L_missed_12), (15, bk_L_missed_15)]
theorem bq_L_missed_0 : me_bk cd_L_missed 0 = bk_L_missed_0 := rfl
theorem bq_L_missed_12 : me_bk cd_L_missed 12 = bk_L_missed_12 := rfl
theorem bq_L_missed_15 : me_bk cd_L_missed 15 = bk_L_missed_15 := rfl
set_option maxRecDepth 100000 in
theorem ck_L_missed : cd_L_missed.all (fun q => me_bck mt_nm RL cL_missed 4 (some .int) [89] 0 q.2 q.1) = true := by decide +kernel
set_option maxRecDepth 100000 in
theorem cl_L_missed {l : Launch} {R : Room} {fr lo mc : Nat} {sp : me_P} (h : me_M l yL_missed (.codeWith yL_missed cL_missed 4 (some .int) [(0, 9, 12, 28)]) fr lo mc sp) (h1 : fr + 1 ≤ R.frames) (h2 : lo + 23 ≤ R.locals) : me_calW mt_nm l R 513 (mc, sp) := ⟨cL_missed, 4, (some .int), [(0, 9, 12, 28)], fr, lo, h, List.mem_of_getElem? (i := 725) (by rfl), h1, by omega, List.mem_of_getElem? (i := 52) (by rfl), by decide, by decide⟩
def bk_L_together_0 : List me_I := [(2, 3, 2, [], 1, 0, 0), (0, 0, 0, [], 1, 0, 0), (2, 0, 2, [], 1, 0, 0), (2, 1, 0, [], 1, 0, 0), (2, 2, 0, [], 1, 0, 0), (29, 90, 2, [6, 743, 744], 3, 0, 742), (7, 0, 0, [], 1, 0, 0), (24, 0, 0, [], 1, 0, 0), (16, 17, 0, [], 3, 0, 0)]
def bk_L_together_13 : List me_I := [(3, 4, 2, [], 2, 0, 0), (0, 1, 0, [], 1, 0, 0), (32, 0, 0, [], 1, 0, 0)]
def bk_L_together_17 : List me_I := [(0, 0, 0, [], 1, 0, 0), (32, 0, 0, [], 1, 0, 0)]
def cd_L_together : List (Nat × List me_I) := [(0, bk_L_together_0), (13, bk_L_together_13), (17, bk_L_together_17)]
theorem bq_L_together_0 : me_bk cd_L_together 0 = bk_L_together_0 := rfl
theorem bq_L_together_13 : me_bk cd_L_together 13 = bk_L_together_13 := rfl
theorem bq_L_together_17 : me_bk cd_L_together 17 = bk_L_together_17 := rfl
set_option maxRecDepth 100000 in
theorem ck_L_together : cd_L_together.all (fun q => me_bck mt_nm RL cL_together 5 (some .int) [90] 0 q.2 q.1) = true := by decide +kernel
set_option maxRecDepth 100000 in
theorem cl_L_together {l : Launch} {R : Room} {fr lo mc : Nat} {sp : me_P} (h : me_M l yL_together (.codeWith yL_together cL_together 5 (some .int) [(0, 10, 13, 28)]) fr lo mc sp) (h1 : fr + 1 ≤ R.frames) (h2 : lo + 24 ≤ R.locals) : me_calW mt_nm l R 514 (mc, sp) := ⟨cL_together, 5, (some .int), [(0, 10, 13, 28)], fr, lo, h, List.mem_of_getElem? (i := 741) (by rfl), h1, by omega, List.mem_of_getElem? (i := 52) (by rfl), by decide, by decide⟩
def bk_L_part_0 : List me_I := [(2, 3, 2, [], 1, 0, 0), (0, 0, 0, [], 1, 0, 0), (2, 0, 2, [], 1, 0, 0), (2, 1, 0, [], 1, 0, 0), (2, 2, 0, [], 1, 0, 0), (29, 91, 2, [6, 758, 759], 3, 0, 757), (7, 0, 0, [], 1, 0, 0), (24, 0, 0, [], 1, 0, 0), (16, 17, 0, [], 3, 0, 0)]
def bk_L_part_13 : List me_I := [(3, 4, 2, [], 2, 0, 0), (0, 1, 0, [], 1, 0, 0), (32, 0, 0, [], 1, 0, 0)]
def bk_L_part_17 : List me_I := [(0, 0, 0, [], 1, 0, 0), (32, 0, 0, [], 1, 0, 0)]
def cd_L_part : List (Nat × List me_I) := [(0, bk_L_part_0), (13, bk_L_part_13), (17, bk_L_part_17)]
theorem bq_L_part_0 : me_bk cd_L_part 0 = bk_L_part_0 := rfl
theorem bq_L_part_13 : me_bk cd_L_part 13 = bk_L_part_13 := rfl
theorem bq_L_part_17 : me_bk cd_L_part 17 = bk_L_part_17 := rfl
set_option maxRecDepth 100000 in
theorem ck_L_part : cd_L_part.all (fun q => me_bck mt_nm RL cL_part 5 (some .int) [91] 0 q.2 q.1) = true := by decide +kernel
set_option maxRecDepth 100000 in
theorem cl_L_part {l : Launch} {R : Room} {fr lo mc : Nat} {sp : me_P} (h : me_M l yL_part (.codeWith yL_part cL_part 5 (some .int) [(0, 10, 13, 28)]) fr lo mc sp) (h1 : fr + 1 ≤ R.frames) (h2 : lo + 24 ≤ R.locals) : me_calW mt_nm l R 515 (mc, sp) := ⟨cL_part, 5, (some .int), [(0, 10, 13, 28)], fr, lo, h, List.mem_of_getElem? (i := 756) (by rfl), h1, by omega, List.mem_of_getElem? (i := 52) (by rfl), by decide, by decide⟩
def bk_L_meet_0 : List me_I := [(2, 3, 2, [], 1, 0, 0), (0, 0, 0, [], 1, 0, 0), (2, 0, 2, [], 1, 0, 0), (2, 1, 0, [], 1, 0, 0), (2, 2, 0, [], 1, 0, 0), (29, 92, 2, [6, 774, 775], 3, 0, 773), (24, 0, 0, [], 1, 0, 0), (16, 16, 0, [], 3, 0, 0)]
def bk_L_meet_12 : List me_I := [(3, 4, 2, [], 2, 0, 0), (0, 1, 0, [], 1, 0, 0), (32, 0, 0, [], 1, 0, 0)]
def bk_L_meet_16 : List me_I := [(0, 0, 0, [], 1, 0, 0), (32, 0, 0, [], 1, 0, 0)]
def cd_L_meet : List (Nat × List me_I) := [(0, bk_L_meet_0), (12, bk_L_meet_12), (16, bk_L_meet_16)]
theorem bq_L_meet_0 : me_bk cd_L_meet 0 = bk_L_meet_0 := rfl
theorem bq_L_meet_12 : me_bk cd_L_meet 12 = bk_L_meet_12 := rfl
theorem bq_L_meet_16 : me_bk cd_L_meet 16 = bk_L_meet_16 := rfl
set_option maxRecDepth 100000 in
theorem ck_L_meet : cd_L_meet.all (fun q => me_bck mt_nm RL cL_meet 5 (some .int) [92] 0 q.2 q.1) = true := by decide +kernel
set_option maxRecDepth 100000 in
theorem cl_L_meet {l : Launch} {R : Room} {fr lo mc : Nat} {sp : me_P} (h : me_M l yL_meet (.codeWith yL_meet cL_meet 5 (some .int) [(0, 9, 12, 28)]) fr lo mc sp) (h1 : fr + 1 ≤ R.frames) (h2 : lo + 24 ≤ R.locals) : me_calW mt_nm l R 516 (mc, sp) := ⟨cL_meet, 5, (some .int), [(0, 9, 12, 28)], fr, lo, h, List.mem_of_getElem? (i := 772) (by rfl), h1, by omega, List.mem_of_getElem? (i := 52) (by rfl), by decide, by decide⟩
def bk_L_addBar_0 : List me_I := [(2, 2, 2, [], 1, 0, 0), (0, 0, 0, [], 1, 0, 0), (2, 0, 2, [], 1, 0, 0), (2, 1, 0, [], 1, 0, 0), (29, 93, 1, [6, 785, 786], 3, 0, 784), (7, 0, 0, [], 1, 0, 0), (24, 0, 0, [], 1, 0, 0), (16, 18, 0, [], 3, 0, 0)]
def bk_L_addBar_12 : List me_I := [(3, 3, 2, [], 1, 0, 0), (0, 1, 0, [], 1, 0, 0), (32, 0, 0, [], 1, 0, 0)]
def bk_L_addBar_15 : List me_I := [(3, 3, 2, [], 1, 0, 0), (0, 2, 0, [], 1, 0, 0), (32, 0, 0, [], 1, 0, 0)]
def bk_L_addBar_18 : List me_I := [(0, 0, 0, [], 1, 0, 0), (32, 0, 0, [], 1, 0, 0)]
def cd_L_addBar : List (Nat × List me_I) := [(0, bk_L_addBar_0), (12, bk_L_addBar_12), (15, bk_L_addBar_15), (18, bk_L_addBar_18)]
theorem bq_L_addBar_0 : me_bk cd_L_addBar 0 = bk_L_addBar_0 := rfl
theorem bq_L_addBar_12 : me_bk cd_L_addBar 12 = bk_L_addBar_12 := rfl
theorem bq_L_addBar_15 : me_bk cd_L_addBar 15 = bk_L_addBar_15 := rfl
theorem bq_L_addBar_18 : me_bk cd_L_addBar 18 = bk_L_addBar_18 := rfl
set_option maxRecDepth 100000 in
theorem ck_L_addBar : cd_L_addBar.all (fun q => me_bck mt_nm RL cL_addBar 4 (some .int) [93] 0 q.2 q.1) = true := by decide +kernel
set_option maxRecDepth 100000 in
theorem cl_L_addBar {l : Launch} {R : Room} {fr lo mc : Nat} {sp : me_P} (h : me_M l yL_addBar (.codeWith yL_addBar cL_addBar 4 (some .int) [(0, 9, 12, 13), (0, 9, 15, 15)]) fr lo mc sp) (h1 : fr + 1 ≤ R.frames) (h2 : lo + 23 ≤ R.locals) : me_calW mt_nm l R 517 (mc, sp) := ⟨cL_addBar, 4, (some .int), [(0, 9, 12, 13), (0, 9, 15, 15)], fr, lo, h, List.mem_of_getElem? (i := 783) (by rfl), h1, by omega, List.mem_of_getElem? (i := 52) (by rfl), by decide, by decide⟩
def bk_L_setTempo_0 : List me_I := [(2, 3, 2, [], 1, 0, 0), (0, 0, 0, [], 1, 0, 0), (2, 0, 2, [], 1, 0, 0), (2, 1, 0, [], 1, 0, 0), (2, 2, 0, [], 1, 0, 0), (29, 94, 2, [6, 803, 804], 3, 0, 802), (7, 0, 0, [], 1, 0, 0), (24, 0, 0, [], 1, 0, 0), (16, 21, 0, [], 3, 0, 0)]
def bk_L_setTempo_13 : List me_I := [(3, 4, 2, [], 2, 0, 0), (0, 1, 0, [], 1, 0, 0), (32, 0, 0, [], 1, 0, 0)]
def bk_L_setTempo_17 : List me_I := [(3, 4, 2, [], 2, 0, 0), (0, 2, 0, [], 1, 0, 0), (32, 0, 0, [], 1, 0, 0)]
def bk_L_setTempo_21 : List me_I := [(0, 0, 0, [], 1, 0, 0), (32, 0, 0, [], 1, 0, 0)]
def cd_L_setTempo : List (Nat × List me_I) := [(0, bk_L_setTempo_0), (13, bk_L_setTempo_13), (17, bk_L_setTempo_17), (21, bk_L_setTempo_21)]
theorem bq_L_setTempo_0 : me_bk cd_L_setTempo 0 = bk_L_setTempo_0 := rfl
theorem bq_L_setTempo_13 : me_bk cd_L_setTempo 13 = bk_L_setTempo_13 := rfl
theorem bq_L_setTempo_17 : me_bk cd_L_setTempo 17 = bk_L_setTempo_17 := rfl
theorem bq_L_setTempo_21 : me_bk cd_L_setTempo 21 = bk_L_setTempo_21 := rfl
set_option maxRecDepth 100000 in
theorem ck_L_setTempo : cd_L_setTempo.all (fun q => me_bck mt_nm RL cL_setTempo 5 (some .int) [94] 0 q.2 q.1) = true := by decide +kernel
set_option maxRecDepth 100000 in
theorem cl_L_setTempo {l : Launch} {R : Room} {fr lo mc : Nat} {sp : me_P} (h : me_M l yL_setTempo (.codeWith yL_setTempo cL_setTempo 5 (some .int) [(0, 10, 13, 28), (0, 10, 17, 13)]) fr lo mc sp) (h1 : fr + 1 ≤ R.frames) (h2 : lo + 24 ≤ R.locals) : me_calW mt_nm l R 518 (mc, sp) := ⟨cL_setTempo, 5, (some .int), [(0, 10, 13, 28), (0, 10, 17, 13)], fr, lo, h, List.mem_of_getElem? (i := 801) (by rfl), h1, by omega, List.mem_of_getElem? (i := 52) (by rfl), by decide, by decide⟩
def bk_L_setStretch_0 : List me_I := [(2, 4, 2, [], 2, 0, 0), (0, 0, 0, [], 1, 0, 0), (2, 0, 2, [], 1, 0, 0), (2, 1, 0, [], 1, 0, 0), (2, 2, 0, [], 1, 0, 0), (2, 3, 0, [], 1, 0, 0), (29, 95, 3, [6, 814, 815], 3, 0, 813), (7, 0, 0, [], 1, 0, 0), (24, 0, 0, [], 1, 0, 0), (16, 23, 0, [], 3, 0, 0)]
def bk_L_setStretch_15 : List me_I := [(3, 5, 2, [], 2, 0, 0), (0, 1, 0, [], 1, 0, 0), (32, 0, 0, [], 1, 0, 0)]
def bk_L_setStretch_19 : List me_I := [(3, 5, 2, [], 2, 0, 0), (0, 2, 0, [], 1, 0, 0), (32, 0, 0, [], 1, 0, 0)]
def bk_L_setStretch_23 : List me_I := [(0, 0, 0, [], 1, 0, 0), (32, 0, 0, [], 1, 0, 0)]
def cd_L_setStretch : List (Nat × List me_I) := [(0, bk_L_setStretch_0), (15, bk_L_setStretch_15), (19, bk_L_setStretch_19), (23, bk_L_setStretch_23)]
theorem bq_L_setStretch_0 : me_bk cd_L_setStretch 0 = bk_L_setStretch_0 := rfl
theorem bq_L_setStretch_15 : me_bk cd_L_setStretch 15 = bk_L_setStretch_15 := rfl
theorem bq_L_setStretch_19 : me_bk cd_L_setStretch 19 = bk_L_setStretch_19 := rfl
theorem bq_L_setStretch_23 : me_bk cd_L_setStretch 23 = bk_L_setStretch_23 := rfl
set_option maxRecDepth 100000 in
theorem ck_L_setStretch : cd_L_setStretch.all (fun q => me_bck mt_nm RL cL_setStretch 6 (some .int) [95] 0 q.2 q.1) = true := by decide +kernel
set_option maxRecDepth 100000 in
theorem cl_L_setStretch {l : Launch} {R : Room} {fr lo mc : Nat} {sp : me_P} (h : me_M l yL_setStretch (.codeWith yL_setStretch cL_setStretch 6 (some .int) [(0, 12, 15, 28), (0, 12, 19, 13)]) fr lo mc sp) (h1 : fr + 1 ≤ R.frames) (h2 : lo + 25 ≤ R.locals) : me_calW mt_nm l R 519 (mc, sp) := ⟨cL_setStretch, 6, (some .int), [(0, 12, 15, 28), (0, 12, 19, 13)], fr, lo, h, List.mem_of_getElem? (i := 812) (by rfl), h1, by omega, List.mem_of_getElem? (i := 52) (by rfl), by decide, by decide⟩
def bk_L_leaveOut_0 : List me_I := [(2, 4, 2, [], 2, 0, 0), (0, 0, 0, [], 1, 0, 0), (2, 0, 2, [], 1, 0, 0), (2, 1, 0, [], 1, 0, 0), (2, 2, 0, [], 1, 0, 0), (2, 3, 0, [], 1, 0, 0), (29, 96, 3, [6, 826, 827], 3, 0, 825), (14, 17, 0, [], 3, 0, 0), (1, 1, 0, [], 1, 0, 0), (16, 18, 0, [], 3, 0, 0)]
def bk_L_leaveOut_17 : List me_I := [(1, 0, 0, [], 1, 0, 0)]
def bk_L_leaveOut_18 : List me_I := [(24, 0, 0, [], 1, 0, 0), (16, 30, 0, [], 3, 0, 0)]
def bk_L_leaveOut_22 : List me_I := [(3, 5, 2, [], 2, 0, 0), (0, 1, 0, [], 1, 0, 0), (32, 0, 0, [], 1, 0, 0)]
def bk_L_leaveOut_26 : List me_I := [(3, 5, 2, [], 2, 0, 0), (0, 2, 0, [], 1, 0, 0), (32, 0, 0, [], 1, 0, 0)]
def bk_L_leaveOut_30 : List me_I := [(0, 0, 0, [], 1, 0, 0), (32, 0, 0, [], 1, 0, 0)]
def cd_L_leaveOut : List (Nat × List me_I) := [(0, bk_L_leaveOut_0), (17, bk_L_leaveOut_17), (18, bk_L_leaveOut_18), (22, bk_L_leaveOut_22), (26, bk_L_leaveOut_26), (30, bk_L_leaveOut_30)]
theorem bq_L_leaveOut_0 : me_bk cd_L_leaveOut 0 = bk_L_leaveOut_0 := rfl
theorem bq_L_leaveOut_17 : me_bk cd_L_leaveOut 17 = bk_L_leaveOut_17 := rfl
theorem bq_L_leaveOut_18 : me_bk cd_L_leaveOut 18 = bk_L_leaveOut_18 := rfl
theorem bq_L_leaveOut_22 : me_bk cd_L_leaveOut 22 = bk_L_leaveOut_22 := rfl
theorem bq_L_leaveOut_26 : me_bk cd_L_leaveOut 26 = bk_L_leaveOut_26 := rfl
theorem bq_L_leaveOut_30 : me_bk cd_L_leaveOut 30 = bk_L_leaveOut_30 := rfl
set_option maxRecDepth 100000 in
theorem ck_L_leaveOut : cd_L_leaveOut.all (fun q => me_bck mt_nm RL cL_leaveOut 6 (some .int) [96] 0 q.2 q.1) = true := by decide +kernel
set_option maxRecDepth 100000 in
theorem cl_L_leaveOut {l : Launch} {R : Room} {fr lo mc : Nat} {sp : me_P} (h : me_M l yL_leaveOut (.codeWith yL_leaveOut cL_leaveOut 6 (some .int) [(0, 19, 22, 28), (0, 19, 26, 13)]) fr lo mc sp) (h1 : fr + 1 ≤ R.frames) (h2 : lo + 25 ≤ R.locals) : me_calW mt_nm l R 520 (mc, sp) := ⟨cL_leaveOut, 6, (some .int), [(0, 19, 22, 28), (0, 19, 26, 13)], fr, lo, h, List.mem_of_getElem? (i := 824) (by rfl), h1, by omega, List.mem_of_getElem? (i := 52) (by rfl), by decide, by decide⟩
def bk_L_addSection_0 : List me_I := [(2, 4, 2, [], 2, 0, 0), (0, 0, 0, [], 1, 0, 0), (2, 0, 2, [], 1, 0, 0), (2, 1, 0, [], 1, 0, 0), (2, 2, 0, [], 1, 0, 0), (2, 3, 0, [], 1, 0, 0), (29, 97, 3, [6, 835, 836], 3, 0, 834), (7, 0, 0, [], 1, 0, 0), (24, 0, 0, [], 1, 0, 0), (16, 27, 0, [], 3, 0, 0)]
def bk_L_addSection_15 : List me_I := [(3, 5, 2, [], 2, 0, 0), (0, 1, 0, [], 1, 0, 0), (32, 0, 0, [], 1, 0, 0)]
def bk_L_addSection_19 : List me_I := [(3, 5, 2, [], 2, 0, 0), (0, 2, 0, [], 1, 0, 0), (32, 0, 0, [], 1, 0, 0)]
def bk_L_addSection_23 : List me_I := [(3, 5, 2, [], 2, 0, 0), (0, 3, 0, [], 1, 0, 0), (32, 0, 0, [], 1, 0, 0)]
def bk_L_addSection_27 : List me_I := [(0, 0, 0, [], 1, 0, 0), (32, 0, 0, [], 1, 0, 0)]
def cd_L_addSection : List (Nat × List me_I) := [(0, bk_L_addSection_0), (15, bk_L_addSection_15), (19, bk_L_addSection_19), (23, bk_L_addSection_23), (27, bk_L_addSection_27)]
theorem bq_L_addSection_0 : me_bk cd_L_addSection 0 = bk_L_addSection_0 := rfl
theorem bq_L_addSection_15 : me_bk cd_L_addSection 15 = bk_L_addSection_15 := rfl
theorem bq_L_addSection_19 : me_bk cd_L_addSection 19 = bk_L_addSection_19 := rfl
theorem bq_L_addSection_23 : me_bk cd_L_addSection 23 = bk_L_addSection_23 := rfl
theorem bq_L_addSection_27 : me_bk cd_L_addSection 27 = bk_L_addSection_27 := rfl
set_option maxRecDepth 100000 in
theorem ck_L_addSection : cd_L_addSection.all (fun q => me_bck mt_nm RL cL_addSection 6 (some .int) [97] 0 q.2 q.1) = true := by decide +kernel
set_option maxRecDepth 100000 in
theorem cl_L_addSection {l : Launch} {R : Room} {fr lo mc : Nat} {sp : me_P} (h : me_M l yL_addSection (.codeWith yL_addSection cL_addSection 6 (some .int) [(0, 12, 15, 28), (0, 12, 19, 13), (0, 12, 23, 15)]) fr lo mc sp) (h1 : fr + 1 ≤ R.frames) (h2 : lo + 25 ≤ R.locals) : me_calW mt_nm l R 521 (mc, sp) := ⟨cL_addSection, 6, (some .int), [(0, 12, 15, 28), (0, 12, 19, 13), (0, 12, 23, 15)], fr, lo, h, List.mem_of_getElem? (i := 833) (by rfl), h1, by omega, List.mem_of_getElem? (i := 52) (by rfl), by decide, by decide⟩
def bk_L_removeSection_0 : List me_I := [(2, 2, 2, [], 1, 0, 0), (0, 0, 0, [], 1, 0, 0), (2, 0, 2, [], 1, 0, 0), (2, 1, 0, [], 1, 0, 0), (29, 98, 1, [6, 851, 852], 3, 0, 850), (7, 0, 0, [], 1, 0, 0), (24, 0, 0, [], 1, 0, 0), (16, 15, 0, [], 3, 0, 0)]
def bk_L_removeSection_12 : List me_I := [(3, 3, 2, [], 1, 0, 0), (0, 1, 0, [], 1, 0, 0), (32, 0, 0, [], 1, 0, 0)]
def bk_L_removeSection_15 : List me_I := [(0, 0, 0, [], 1, 0, 0), (32, 0, 0, [], 1, 0, 0)]
def cd_L_removeSection : List (Nat × List me_I) := [(0, bk_L_removeSection_0), (12, bk_L_removeSection_12), (15, bk_L_removeSection_15)]
theorem bq_L_removeSection_0 : me_bk cd_L_removeSection 0 = bk_L_removeSection_0 := rfl
theorem bq_L_removeSection_12 : me_bk cd_L_removeSection 12 = bk_L_removeSection_12 := rfl
theorem bq_L_removeSection_15 : me_bk cd_L_removeSection 15 = bk_L_removeSection_15 := rfl
set_option maxRecDepth 100000 in
theorem ck_L_removeSection : cd_L_removeSection.all (fun q => me_bck mt_nm RL cL_removeSection 4 (some .int) [98] 0 q.2 q.1) = true := by decide +kernel
set_option maxRecDepth 100000 in
theorem cl_L_removeSection {l : Launch} {R : Room} {fr lo mc : Nat} {sp : me_P} (h : me_M l yL_removeSection (.codeWith yL_removeSection cL_removeSection 4 (some .int) [(0, 9, 12, 28)]) fr lo mc sp) (h1 : fr + 1 ≤ R.frames) (h2 : lo + 23 ≤ R.locals) : me_calW mt_nm l R 522 (mc, sp) := ⟨cL_removeSection, 4, (some .int), [(0, 9, 12, 28)], fr, lo, h, List.mem_of_getElem? (i := 849) (by rfl), h1, by omega, List.mem_of_getElem? (i := 52) (by rfl), by decide, by decide⟩
def bk_L_skip_0 : List me_I := [(2, 4, 2, [], 2, 0, 0), (0, 0, 0, [], 1, 0, 0), (2, 0, 2, [], 1, 0, 0), (2, 1, 0, [], 1, 0, 0), (2, 2, 0, [], 1, 0, 0), (2, 3, 0, [], 1, 0, 0), (29, 99, 3, [6, 862, 863], 3, 0, 861), (7, 0, 0, [], 1, 0, 0), (24, 0, 0, [], 1, 0, 0), (16, 19, 0, [], 3, 0, 0)]
def bk_L_skip_15 : List me_I := [(3, 5, 2, [], 2, 0, 0), (0, 1, 0, [], 1, 0, 0), (32, 0, 0, [], 1, 0, 0)]
def bk_L_skip_19 : List me_I := [(0, 0, 0, [], 1, 0, 0), (32, 0, 0, [], 1, 0, 0)]
def cd_L_skip : List (Nat × List me_I) := [(0, bk_L_skip_0), (15, bk_L_skip_15), (19, bk_L_skip_19)]
theorem bq_L_skip_0 : me_bk cd_L_skip 0 = bk_L_skip_0 := rfl
theorem bq_L_skip_15 : me_bk cd_L_skip 15 = bk_L_skip_15 := rfl
theorem bq_L_skip_19 : me_bk cd_L_skip 19 = bk_L_skip_19 := rfl
set_option maxRecDepth 100000 in
theorem ck_L_skip : cd_L_skip.all (fun q => me_bck mt_nm RL cL_skip 6 (some .int) [99] 0 q.2 q.1) = true := by decide +kernel
set_option maxRecDepth 100000 in
theorem cl_L_skip {l : Launch} {R : Room} {fr lo mc : Nat} {sp : me_P} (h : me_M l yL_skip (.codeWith yL_skip cL_skip 6 (some .int) [(0, 12, 15, 28)]) fr lo mc sp) (h1 : fr + 1 ≤ R.frames) (h2 : lo + 25 ≤ R.locals) : me_calW mt_nm l R 523 (mc, sp) := ⟨cL_skip, 6, (some .int), [(0, 12, 15, 28)], fr, lo, h, List.mem_of_getElem? (i := 860) (by rfl), h1, by omega, List.mem_of_getElem? (i := 52) (by rfl), by decide, by decide⟩
def bk_L_undo_0 : List me_I := [(2, 1, 2, [], 1, 0, 0), (0, 0, 0, [], 1, 0, 0), (2, 0, 2, [], 1, 0, 0), (29, 100, 0, [6, 879, 880], 3, 0, 878), (7, 0, 0, [], 1, 0, 0), (24, 0, 0, [], 1, 0, 0), (16, 14, 0, [], 3, 0, 0)]
def bk_L_undo_11 : List me_I := [(3, 2, 2, [], 1, 0, 0), (0, 1, 0, [], 1, 0, 0), (32, 0, 0, [], 1, 0, 0)]
def bk_L_undo_14 : List me_I := [(0, 0, 0, [], 1, 0, 0), (32, 0, 0, [], 1, 0, 0)]
def cd_L_undo : List (Nat × List me_I) := [(0, bk_L_undo_0), (11, bk_L_undo_11), (14, bk_L_undo_14)]
theorem bq_L_undo_0 : me_bk cd_L_undo 0 = bk_L_undo_0 := rfl
theorem bq_L_undo_11 : me_bk cd_L_undo 11 = bk_L_undo_11 := rfl
theorem bq_L_undo_14 : me_bk cd_L_undo 14 = bk_L_undo_14 := rfl
set_option maxRecDepth 100000 in
theorem ck_L_undo : cd_L_undo.all (fun q => me_bck mt_nm RL cL_undo 3 (some .int) [100] 0 q.2 q.1) = true := by decide +kernel
set_option maxRecDepth 100000 in
theorem cl_L_undo {l : Launch} {R : Room} {fr lo mc : Nat} {sp : me_P} (h : me_M l yL_undo (.codeWith yL_undo cL_undo 3 (some .int) [(0, 8, 11, 15)]) fr lo mc sp) (h1 : fr + 1 ≤ R.frames) (h2 : lo + 22 ≤ R.locals) : me_calW mt_nm l R 524 (mc, sp) := ⟨cL_undo, 3, (some .int), [(0, 8, 11, 15)], fr, lo, h, List.mem_of_getElem? (i := 877) (by rfl), h1, by omega, List.mem_of_getElem? (i := 52) (by rfl), by decide, by decide⟩
def bk_L_percentage_0 : List me_I := [(2, 4, 2, [], 2, 0, 0), (0, 0, 0, [], 1, 0, 0), (2, 0, 2, [], 1, 0, 0), (2, 1, 0, [], 1, 0, 0), (2, 2, 1, [], 1, 0, 0), (29, 101, 2, [6, 891, 892], 3, 0, 890), (7, 0, 0, [], 1, 0, 0), (24, 0, 0, [], 1, 0, 0), (16, 22, 0, [], 3, 0, 0)]
def bk_L_percentage_14 : List me_I := [(3, 5, 2, [], 2, 0, 0), (0, 1, 0, [], 1, 0, 0), (32, 0, 0, [], 1, 0, 0)]
def bk_L_percentage_18 : List me_I := [(3, 5, 2, [], 2, 0, 0), (0, 2, 0, [], 1, 0, 0), (32, 0, 0, [], 1, 0, 0)]
def bk_L_percentage_22 : List me_I := [(0, 0, 0, [], 1, 0, 0), (32, 0, 0, [], 1, 0, 0)]
def cd_L_percentage : List (Nat × List me_I) := [(0, bk_L_percentage_0), (14, bk_L_percentage_14), (18, bk_L_percentage_18), (22, bk_L_percentage_22)]
theorem bq_L_percentage_0 : me_bk cd_L_percentage 0 = bk_L_percentage_0 := rfl
theorem bq_L_percentage_14 : me_bk cd_L_percentage 14 = bk_L_percentage_14 := rfl
theorem bq_L_percentage_18 : me_bk cd_L_percentage 18 = bk_L_percentage_18 := rfl
theorem bq_L_percentage_22 : me_bk cd_L_percentage 22 = bk_L_percentage_22 := rfl
set_option maxRecDepth 100000 in
theorem ck_L_percentage : cd_L_percentage.all (fun q => me_bck mt_nm RL cL_percentage 6 (some .int) [101] 0 q.2 q.1) = true := by decide +kernel
set_option maxRecDepth 100000 in
theorem cl_L_percentage {l : Launch} {R : Room} {fr lo mc : Nat} {sp : me_P} (h : me_M l yL_percentage (.codeWith yL_percentage cL_percentage 6 (some .int) [(0, 11, 14, 28), (0, 11, 18, 13)]) fr lo mc sp) (h1 : fr + 1 ≤ R.frames) (h2 : lo + 25 ≤ R.locals) : me_calW mt_nm l R 525 (mc, sp) := ⟨cL_percentage, 6, (some .int), [(0, 11, 14, 28), (0, 11, 18, 13)], fr, lo, h, List.mem_of_getElem? (i := 889) (by rfl), h1, by omega, List.mem_of_getElem? (i := 52) (by rfl), by decide, by decide⟩
def bk_L_longest_0 : List me_I := [(2, 2, 2, [], 1, 0, 0), (0, 0, 0, [], 1, 0, 0), (2, 0, 2, [], 1, 0, 0), (2, 1, 0, [], 1, 0, 0), (29, 102, 1, [6, 918, 919], 3, 0, 917), (7, 0, 0, [], 1, 0, 0), (24, 0, 0, [], 1, 0, 0), (16, 15, 0, [], 3, 0, 0)]
def bk_L_longest_12 : List me_I := [(3, 3, 2, [], 1, 0, 0), (0, 1, 0, [], 1, 0, 0), (32, 0, 0, [], 1, 0, 0)]
def bk_L_longest_15 : List me_I := [(0, 0, 0, [], 1, 0, 0), (32, 0, 0, [], 1, 0, 0)]
def cd_L_longest : List (Nat × List me_I) := [(0, bk_L_longest_0), (12, bk_L_longest_12), (15, bk_L_longest_15)]
theorem bq_L_longest_0 : me_bk cd_L_longest 0 = bk_L_longest_0 := rfl
theorem bq_L_longest_12 : me_bk cd_L_longest 12 = bk_L_longest_12 := rfl
theorem bq_L_longest_15 : me_bk cd_L_longest 15 = bk_L_longest_15 := rfl
set_option maxRecDepth 100000 in
theorem ck_L_longest : cd_L_longest.all (fun q => me_bck mt_nm RL cL_longest 4 (some .int) [102] 0 q.2 q.1) = true := by decide +kernel
set_option maxRecDepth 100000 in
theorem cl_L_longest {l : Launch} {R : Room} {fr lo mc : Nat} {sp : me_P} (h : me_M l yL_longest (.codeWith yL_longest cL_longest 4 (some .int) [(0, 9, 12, 28)]) fr lo mc sp) (h1 : fr + 1 ≤ R.frames) (h2 : lo + 23 ≤ R.locals) : me_calW mt_nm l R 526 (mc, sp) := ⟨cL_longest, 4, (some .int), [(0, 9, 12, 28)], fr, lo, h, List.mem_of_getElem? (i := 916) (by rfl), h1, by omega, List.mem_of_getElem? (i := 52) (by rfl), by decide, by decide⟩
def bk_L_runScript_0 : List me_I := [(2, 4, 2, [], 2, 0, 0), (0, 0, 0, [], 1, 0, 0), (2, 0, 2, [], 1, 0, 0), (2, 1, 0, [], 1, 0, 0), (2, 2, 1, [], 1, 0, 0), (29, 103, 2, [6, 929, 930], 3, 0, 928), (7, 0, 0, [], 1, 0, 0), (24, 0, 0, [], 1, 0, 0), (16, 18, 0, [], 3, 0, 0)]
def bk_L_runScript_14 : List me_I := [(3, 5, 2, [], 2, 0, 0), (0, 1, 0, [], 1, 0, 0), (32, 0, 0, [], 1, 0, 0)]
def bk_L_runScript_18 : List me_I := [(0, 0, 0, [], 1, 0, 0), (32, 0, 0, [], 1, 0, 0)]
def cd_L_runScript : List (Nat × List me_I) := [(0, bk_L_runScript_0), (14, bk_L_runScript_14), (18, bk_L_runScript_18)]
theorem bq_L_runScript_0 : me_bk cd_L_runScript 0 = bk_L_runScript_0 := rfl
theorem bq_L_runScript_14 : me_bk cd_L_runScript 14 = bk_L_runScript_14 := rfl
theorem bq_L_runScript_18 : me_bk cd_L_runScript 18 = bk_L_runScript_18 := rfl
set_option maxRecDepth 100000 in
theorem ck_L_runScript : cd_L_runScript.all (fun q => me_bck mt_nm RL cL_runScript 6 (some .int) [103] 0 q.2 q.1) = true := by decide +kernel
set_option maxRecDepth 100000 in
theorem cl_L_runScript {l : Launch} {R : Room} {fr lo mc : Nat} {sp : me_P} (h : me_M l yL_runScript (.codeWith yL_runScript cL_runScript 6 (some .int) [(0, 11, 14, 13)]) fr lo mc sp) (h1 : fr + 1 ≤ R.frames) (h2 : lo + 25 ≤ R.locals) : me_calW mt_nm l R 527 (mc, sp) := ⟨cL_runScript, 6, (some .int), [(0, 11, 14, 13)], fr, lo, h, List.mem_of_getElem? (i := 927) (by rfl), h1, by omega, List.mem_of_getElem? (i := 52) (by rfl), by decide, by decide⟩
def bk_L_simulate_0 : List me_I := [(2, 4, 2, [], 2, 0, 0), (0, 0, 0, [], 1, 0, 0), (2, 0, 2, [], 1, 0, 0), (2, 1, 1, [], 1, 0, 0), (2, 3, 0, [], 1, 0, 0), (29, 104, 2, [6, 1003, 1004], 3, 0, 1002), (7, 0, 0, [], 1, 0, 0), (24, 0, 0, [], 1, 0, 0), (16, 18, 0, [], 3, 0, 0)]
def bk_L_simulate_14 : List me_I := [(3, 5, 2, [], 2, 0, 0), (0, 1, 0, [], 1, 0, 0), (32, 0, 0, [], 1, 0, 0)]
def bk_L_simulate_18 : List me_I := [(0, 0, 0, [], 1, 0, 0), (32, 0, 0, [], 1, 0, 0)]
def cd_L_simulate : List (Nat × List me_I) := [(0, bk_L_simulate_0), (14, bk_L_simulate_14), (18, bk_L_simulate_18)]
theorem bq_L_simulate_0 : me_bk cd_L_simulate 0 = bk_L_simulate_0 := rfl
theorem bq_L_simulate_14 : me_bk cd_L_simulate 14 = bk_L_simulate_14 := rfl
theorem bq_L_simulate_18 : me_bk cd_L_simulate 18 = bk_L_simulate_18 := rfl
set_option maxRecDepth 100000 in
theorem ck_L_simulate : cd_L_simulate.all (fun q => me_bck mt_nm RL cL_simulate 6 (some .int) [104] 0 q.2 q.1) = true := by decide +kernel
set_option maxRecDepth 100000 in
theorem cl_L_simulate {l : Launch} {R : Room} {fr lo mc : Nat} {sp : me_P} (h : me_M l yL_simulate (.codeWith yL_simulate cL_simulate 6 (some .int) [(0, 11, 14, 13)]) fr lo mc sp) (h1 : fr + 1 ≤ R.frames) (h2 : lo + 25 ≤ R.locals) : me_calW mt_nm l R 528 (mc, sp) := ⟨cL_simulate, 6, (some .int), [(0, 11, 14, 13)], fr, lo, h, List.mem_of_getElem? (i := 1001) (by rfl), h1, by omega, List.mem_of_getElem? (i := 52) (by rfl), by decide, by decide⟩
def bk_L_save_0 : List me_I := [(2, 2, 2, [], 1, 0, 0), (0, 0, 0, [], 1, 0, 0), (2, 0, 2, [], 1, 0, 0), (2, 1, 0, [], 1, 0, 0), (29, 105, 1, [6, 1022, 1023], 3, 0, 1021), (7, 0, 0, [], 1, 0, 0), (24, 0, 0, [], 1, 0, 0), (16, 15, 0, [], 3, 0, 0)]
def bk_L_save_12 : List me_I := [(3, 3, 2, [], 1, 0, 0), (0, 1, 0, [], 1, 0, 0), (32, 0, 0, [], 1, 0, 0)]
def bk_L_save_15 : List me_I := [(0, 0, 0, [], 1, 0, 0), (32, 0, 0, [], 1, 0, 0)]
def cd_L_save : List (Nat × List me_I) := [(0, bk_L_save_0), (12, bk_L_save_12), (15, bk_L_save_15)]
theorem bq_L_save_0 : me_bk cd_L_save 0 = bk_L_save_0 := rfl
theorem bq_L_save_12 : me_bk cd_L_save 12 = bk_L_save_12 := rfl
theorem bq_L_save_15 : me_bk cd_L_save 15 = bk_L_save_15 := rfl
set_option maxRecDepth 100000 in
theorem ck_L_save : cd_L_save.all (fun q => me_bck mt_nm RL cL_save 4 (some .int) [105] 0 q.2 q.1) = true := by decide +kernel
set_option maxRecDepth 100000 in
theorem cl_L_save {l : Launch} {R : Room} {fr lo mc : Nat} {sp : me_P} (h : me_M l yL_save (.codeWith yL_save cL_save 4 (some .int) [(0, 9, 12, 28)]) fr lo mc sp) (h1 : fr + 1 ≤ R.frames) (h2 : lo + 23 ≤ R.locals) : me_calW mt_nm l R 529 (mc, sp) := ⟨cL_save, 4, (some .int), [(0, 9, 12, 28)], fr, lo, h, List.mem_of_getElem? (i := 1020) (by rfl), h1, by omega, List.mem_of_getElem? (i := 52) (by rfl), by decide, by decide⟩
def bk_L_restore_0 : List me_I := [(2, 2, 2, [], 1, 0, 0), (0, 0, 0, [], 1, 0, 0), (2, 0, 2, [], 1, 0, 0), (2, 1, 0, [], 1, 0, 0), (29, 106, 1, [6, 1033, 1034], 3, 0, 1032), (7, 0, 0, [], 1, 0, 0), (24, 0, 0, [], 1, 0, 0), (16, 18, 0, [], 3, 0, 0)]
def bk_L_restore_12 : List me_I := [(3, 3, 2, [], 1, 0, 0), (0, 1, 0, [], 1, 0, 0), (32, 0, 0, [], 1, 0, 0)]
def bk_L_restore_15 : List me_I := [(3, 3, 2, [], 1, 0, 0), (0, 2, 0, [], 1, 0, 0), (32, 0, 0, [], 1, 0, 0)]
def bk_L_restore_18 : List me_I := [(0, 0, 0, [], 1, 0, 0), (32, 0, 0, [], 1, 0, 0)]
def cd_L_restore : List (Nat × List me_I) := [(0, bk_L_restore_0), (12, bk_L_restore_12), (15, bk_L_restore_15), (18, bk_L_restore_18)]
theorem bq_L_restore_0 : me_bk cd_L_restore 0 = bk_L_restore_0 := rfl
theorem bq_L_restore_12 : me_bk cd_L_restore 12 = bk_L_restore_12 := rfl
theorem bq_L_restore_15 : me_bk cd_L_restore 15 = bk_L_restore_15 := rfl
theorem bq_L_restore_18 : me_bk cd_L_restore 18 = bk_L_restore_18 := rfl
set_option maxRecDepth 100000 in
theorem ck_L_restore : cd_L_restore.all (fun q => me_bck mt_nm RL cL_restore 4 (some .int) [106] 0 q.2 q.1) = true := by decide +kernel
set_option maxRecDepth 100000 in
theorem cl_L_restore {l : Launch} {R : Room} {fr lo mc : Nat} {sp : me_P} (h : me_M l yL_restore (.codeWith yL_restore cL_restore 4 (some .int) [(0, 9, 12, 28), (0, 9, 15, 15)]) fr lo mc sp) (h1 : fr + 1 ≤ R.frames) (h2 : lo + 23 ≤ R.locals) : me_calW mt_nm l R 530 (mc, sp) := ⟨cL_restore, 4, (some .int), [(0, 9, 12, 28), (0, 9, 15, 15)], fr, lo, h, List.mem_of_getElem? (i := 1031) (by rfl), h1, by omega, List.mem_of_getElem? (i := 52) (by rfl), by decide, by decide⟩
