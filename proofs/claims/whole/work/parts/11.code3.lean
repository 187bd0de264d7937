def bk_X7_thrown_0 : List me_I := [(2, 0, 2, [], 1, 0, 0), (19, 7, 0, [], 3, 0, 1043), (32, 0, 0, [], 1, 0, 0)]
def cd_X7_thrown : List (Nat × List me_I) := [(0, bk_X7_thrown_0)]
theorem bq_X7_thrown_0 : me_bk cd_X7_thrown 0 = bk_X7_thrown_0 := rfl
set_option maxRecDepth 100000 in
theorem ck_X7_thrown : cd_X7_thrown.all (fun q => me_bck mt_nm RX7 cX7_thrown 1 (some .int) [] 0 q.2 q.1) = true := by decide +kernel
set_option maxRecDepth 100000 in
theorem cl_X7_thrown {l : Launch} {R : Room} {fr lo mc : Nat} {sp : me_P} (h : me_M l yX7_thrown (.code yX7_thrown cX7_thrown 1 (some .int)) fr lo mc sp) (h1 : fr + 1 ≤ R.frames) (h2 : lo + 20 ≤ R.locals) : me_cal mt_nm l R 124 (mc, sp) := ⟨cX7_thrown, 1, (some .int), fr, lo, h, List.mem_of_getElem? (i := 1122) (by rfl), h1, by omega, List.mem_of_getElem? (i := 60) (by rfl), by decide, by decide⟩
def bk_X7_refused_0 : List me_I := [(2, 0, 2, [], 1, 0, 0), (2, 1, 0, [], 1, 0, 0), (20, 7, 0, [], 3, 0, 1043), (2, 1, 0, [], 1, 0, 0), (14, 13, 5, [], 3, 0, 0), (0, 1, 0, [], 1, 0, 0), (16, 14, 0, [], 3, 0, 0)]
def bk_X7_refused_13 : List me_I := [(0, 0, 0, [], 1, 0, 0)]
def bk_X7_refused_14 : List me_I := [(34, 0, 0, [], 1, 0, 0)]
def cd_X7_refused : List (Nat × List me_I) := [(0, bk_X7_refused_0), (13, bk_X7_refused_13), (14, bk_X7_refused_14)]
theorem bq_X7_refused_0 : me_bk cd_X7_refused 0 = bk_X7_refused_0 := rfl
theorem bq_X7_refused_13 : me_bk cd_X7_refused 13 = bk_X7_refused_13 := rfl
theorem bq_X7_refused_14 : me_bk cd_X7_refused 14 = bk_X7_refused_14 := rfl
set_option maxRecDepth 100000 in
theorem ck_X7_refused : cd_X7_refused.all (fun q => me_bck mt_nm RX7 cX7_refused 2 (some .boolean) [] 0 q.2 q.1) = true := by decide +kernel
set_option maxRecDepth 100000 in
theorem cl_X7_refused {l : Launch} {R : Room} {fr lo mc : Nat} {sp : me_P} (h : me_M l yX7_refused (.code yX7_refused cX7_refused 2 (some .boolean)) fr lo mc sp) (h1 : fr + 1 ≤ R.frames) (h2 : lo + 21 ≤ R.locals) : me_cal mt_nm l R 125 (mc, sp) := ⟨cX7_refused, 2, (some .boolean), fr, lo, h, List.mem_of_getElem? (i := 1134) (by rfl), h1, by omega, List.mem_of_getElem? (i := 60) (by rfl), by decide, by decide⟩
def bk_X7_in_0 : List me_I := [(2, 0, 1, [], 1, 0, 0), (2, 2, 1, [], 1, 0, 0), (9, 0, 0, [], 1, 0, 0), (14, 17, 2, [], 3, 0, 0), (2, 0, 1, [], 1, 0, 0), (2, 4, 1, [], 2, 0, 0), (9, 0, 0, [], 1, 0, 0), (14, 17, 4, [], 3, 0, 0), (0, 1, 0, [], 1, 0, 0), (16, 18, 0, [], 3, 0, 0)]
def bk_X7_in_17 : List me_I := [(0, 0, 0, [], 1, 0, 0)]
def bk_X7_in_18 : List me_I := [(34, 0, 0, [], 1, 0, 0)]
def cd_X7_in : List (Nat × List me_I) := [(0, bk_X7_in_0), (17, bk_X7_in_17), (18, bk_X7_in_18)]
theorem bq_X7_in_0 : me_bk cd_X7_in 0 = bk_X7_in_0 := rfl
theorem bq_X7_in_17 : me_bk cd_X7_in 17 = bk_X7_in_17 := rfl
theorem bq_X7_in_18 : me_bk cd_X7_in 18 = bk_X7_in_18 := rfl
set_option maxRecDepth 100000 in
theorem ck_X7_in : cd_X7_in.all (fun q => me_bck mt_nm RX7 cX7_in 6 (some .boolean) [] 0 q.2 q.1) = true := by decide +kernel
set_option maxRecDepth 100000 in
theorem cl_X7_in {l : Launch} {R : Room} {fr lo mc : Nat} {sp : me_P} (h : me_M l yX7_in (.code yX7_in cX7_in 6 (some .boolean)) fr lo mc sp) (h1 : fr + 1 ≤ R.frames) (h2 : lo + 25 ≤ R.locals) : me_cal mt_nm l R 126 (mc, sp) := ⟨cX7_in, 6, (some .boolean), fr, lo, h, List.mem_of_getElem? (i := 1130) (by rfl), h1, by omega, List.mem_of_getElem? (i := 60) (by rfl), by decide, by decide⟩
def bk_X7_has_0 : List me_I := [(2, 0, 0, [], 1, 0, 0), (2, 1, 0, [], 1, 0, 0), (4, 7, 0, [], 1, 0, 0), (0, 1, 0, [], 1, 0, 0), (4, 3, 0, [], 1, 0, 0), (0, 1, 0, [], 1, 0, 0), (15, 13, 1, [], 3, 0, 0), (0, 1, 0, [], 1, 0, 0), (16, 14, 0, [], 3, 0, 0)]
def bk_X7_has_13 : List me_I := [(0, 0, 0, [], 1, 0, 0)]
def bk_X7_has_14 : List me_I := [(34, 0, 0, [], 1, 0, 0)]
def cd_X7_has : List (Nat × List me_I) := [(0, bk_X7_has_0), (13, bk_X7_has_13), (14, bk_X7_has_14)]
theorem bq_X7_has_0 : me_bk cd_X7_has 0 = bk_X7_has_0 := rfl
theorem bq_X7_has_13 : me_bk cd_X7_has 13 = bk_X7_has_13 := rfl
theorem bq_X7_has_14 : me_bk cd_X7_has 14 = bk_X7_has_14 := rfl
set_option maxRecDepth 100000 in
theorem ck_X7_has : cd_X7_has.all (fun q => me_bck mt_nm RX7 cX7_has 2 (some .boolean) [] 0 q.2 q.1) = true := by decide +kernel
set_option maxRecDepth 100000 in
theorem cl_X7_has {l : Launch} {R : Room} {fr lo mc : Nat} {sp : me_P} (h : me_M l yX7_has (.code yX7_has cX7_has 2 (some .boolean)) fr lo mc sp) (h1 : fr + 1 ≤ R.frames) (h2 : lo + 21 ≤ R.locals) : me_cal mt_nm l R 127 (mc, sp) := ⟨cX7_has, 2, (some .boolean), fr, lo, h, List.mem_of_getElem? (i := 1256) (by rfl), h1, by omega, List.mem_of_getElem? (i := 60) (by rfl), by decide, by decide⟩
def bk_X7_count_0 : List me_I := [(0, 0, 0, [], 1, 0, 0), (3, 1, 0, [], 1, 0, 0), (0, 0, 0, [], 1, 0, 0), (3, 2, 0, [], 1, 0, 0)]
def bk_X7_count_4 : List me_I := [(2, 2, 0, [], 1, 0, 0), (0, 24, 0, [], 2, 0, 0), (15, 24, 3, [], 3, 0, 0), (2, 1, 0, [], 1, 0, 0), (2, 0, 0, [], 1, 0, 0), (2, 2, 0, [], 1, 0, 0), (4, 7, 0, [], 1, 0, 0), (0, 1, 0, [], 1, 0, 0), (4, 3, 0, [], 1, 0, 0), (4, 0, 0, [], 1, 0, 0), (3, 1, 0, [], 1, 0, 0), (13, 2, 1, [], 3, 0, 0), (16, 4, 0, [], 3, 0, 0)]
def bk_X7_count_24 : List me_I := [(2, 1, 0, [], 1, 0, 0), (32, 0, 0, [], 1, 0, 0)]
def cd_X7_count : List (Nat × List me_I) := [(0, bk_X7_count_0), (4, bk_X7_count_4), (24, bk_X7_count_24)]
theorem bq_X7_count_0 : me_bk cd_X7_count 0 = bk_X7_count_0 := rfl
theorem bq_X7_count_4 : me_bk cd_X7_count 4 = bk_X7_count_4 := rfl
theorem bq_X7_count_24 : me_bk cd_X7_count 24 = bk_X7_count_24 := rfl
set_option maxRecDepth 100000 in
theorem ck_X7_count : cd_X7_count.all (fun q => me_bck mt_nm RX7 cX7_count 3 (some .int) [] 0 q.2 q.1) = true := by decide +kernel
set_option maxRecDepth 100000 in
theorem cl_X7_count {l : Launch} {R : Room} {fr lo mc : Nat} {sp : me_P} (h : me_M l yX7_count (.code yX7_count cX7_count 3 (some .int)) fr lo mc sp) (h1 : fr + 1 ≤ R.frames) (h2 : lo + 22 ≤ R.locals) : me_cal mt_nm l R 128 (mc, sp) := ⟨cX7_count, 3, (some .int), fr, lo, h, List.mem_of_getElem? (i := 1366) (by rfl), h1, by omega, List.mem_of_getElem? (i := 60) (by rfl), by decide, by decide⟩
def bk_X7_copy_0 : List me_I := [(0, 0, 0, [], 1, 0, 0), (3, 5, 0, [], 2, 0, 0)]
def bk_X7_copy_3 : List me_I := [(2, 5, 0, [], 2, 0, 0), (2, 4, 0, [], 2, 0, 0), (15, 28, 3, [], 3, 0, 0), (2, 2, 2, [], 1, 0, 0), (2, 3, 0, [], 1, 0, 0), (2, 5, 0, [], 2, 0, 0), (4, 0, 0, [], 1, 0, 0), (2, 0, 2, [], 1, 0, 0), (2, 1, 0, [], 1, 0, 0), (2, 5, 0, [], 2, 0, 0), (4, 0, 0, [], 1, 0, 0), (21, 0, 0, [], 1, 0, 0), (22, 0, 0, [], 1, 0, 0), (13, 5, 1, [], 3, 0, 0), (16, 3, 0, [], 3, 0, 0)]
def bk_X7_copy_28 : List me_I := [(31, 0, 0, [], 1, 0, 0)]
def cd_X7_copy : List (Nat × List me_I) := [(0, bk_X7_copy_0), (3, bk_X7_copy_3), (28, bk_X7_copy_28)]
theorem bq_X7_copy_0 : me_bk cd_X7_copy 0 = bk_X7_copy_0 := rfl
theorem bq_X7_copy_3 : me_bk cd_X7_copy 3 = bk_X7_copy_3 := rfl
theorem bq_X7_copy_28 : me_bk cd_X7_copy 28 = bk_X7_copy_28 := rfl
set_option maxRecDepth 100000 in
theorem ck_X7_copy : cd_X7_copy.all (fun q => me_bck mt_nm RX7 cX7_copy 6 none [] 0 q.2 q.1) = true := by decide +kernel
set_option maxRecDepth 100000 in
theorem cl_X7_copy {l : Launch} {R : Room} {fr lo mc : Nat} {sp : me_P} (h : me_M l yX7_copy (.code yX7_copy cX7_copy 6 none) fr lo mc sp) (h1 : fr + 1 ≤ R.frames) (h2 : lo + 25 ≤ R.locals) : me_cal mt_nm l R 129 (mc, sp) := ⟨cX7_copy, 6, none, fr, lo, h, List.mem_of_getElem? (i := 1195) (by rfl), h1, by omega, List.mem_of_getElem? (i := 60) (by rfl), by decide, by decide⟩
def bk_X7_tenTo_0 : List me_I := [(1, 1, 0, [], 1, 0, 0), (3, 1, 1, [], 1, 0, 0), (0, 0, 0, [], 1, 0, 0), (3, 3, 0, [], 1, 0, 0)]
def bk_X7_tenTo_4 : List me_I := [(2, 3, 0, [], 1, 0, 0), (2, 0, 0, [], 1, 0, 0), (15, 21, 3, [], 3, 0, 0), (2, 1, 1, [], 1, 0, 0), (1, 10, 0, [], 3, 0, 1387), (5, 2, 0, [], 1, 0, 0), (3, 1, 1, [], 1, 0, 0), (13, 3, 1, [], 3, 0, 0), (16, 4, 0, [], 3, 0, 0)]
def bk_X7_tenTo_21 : List me_I := [(2, 1, 1, [], 1, 0, 0), (33, 0, 0, [], 1, 0, 0)]
def cd_X7_tenTo : List (Nat × List me_I) := [(0, bk_X7_tenTo_0), (4, bk_X7_tenTo_4), (21, bk_X7_tenTo_21)]
theorem bq_X7_tenTo_0 : me_bk cd_X7_tenTo 0 = bk_X7_tenTo_0 := rfl
theorem bq_X7_tenTo_4 : me_bk cd_X7_tenTo 4 = bk_X7_tenTo_4 := rfl
theorem bq_X7_tenTo_21 : me_bk cd_X7_tenTo 21 = bk_X7_tenTo_21 := rfl
set_option maxRecDepth 100000 in
theorem ck_X7_tenTo : cd_X7_tenTo.all (fun q => me_bck mt_nm RX7 cX7_tenTo 4 (some .long) [] 0 q.2 q.1) = true := by decide +kernel
set_option maxRecDepth 100000 in
theorem cl_X7_tenTo {l : Launch} {R : Room} {fr lo mc : Nat} {sp : me_P} (h : me_M l yX7_tenTo (.code yX7_tenTo cX7_tenTo 4 (some .long)) fr lo mc sp) (h1 : fr + 1 ≤ R.frames) (h2 : lo + 23 ≤ R.locals) : me_cal mt_nm l R 130 (mc, sp) := ⟨cX7_tenTo, 4, (some .long), fr, lo, h, List.mem_of_getElem? (i := 1386) (by rfl), h1, by omega, List.mem_of_getElem? (i := 60) (by rfl), by decide, by decide⟩
def bk_X7_note_0 : List me_I := [(2, 0, 2, [], 1, 0, 0), (19, 7, 10, [], 3, 0, 1053), (0, 14, 0, [], 2, 0, 0), (15, 37, 1, [], 3, 0, 0), (2, 0, 2, [], 1, 0, 0), (19, 7, 9, [], 3, 0, 1052), (0, 305, 0, [], 3, 0, 0), (2, 0, 2, [], 1, 0, 0), (19, 7, 9, [], 3, 0, 1052), (0, 0, 0, [], 1, 0, 0), (0, 3965, 0, [], 3, 0, 0), (30, 129, 5, [1194], 3, 0, 1193), (2, 0, 2, [], 1, 0, 0), (10, 0, 0, [], 1, 0, 0), (19, 7, 10, [], 3, 0, 1053), (0, 1, 0, [], 1, 0, 0), (4, 1, 0, [], 1, 0, 0), (20, 7, 10, [], 3, 0, 1053)]
def bk_X7_note_37 : List me_I := [(2, 0, 2, [], 1, 0, 0), (19, 7, 7, [], 3, 0, 1050), (0, 0, 0, [], 1, 0, 0), (2, 0, 2, [], 1, 0, 0), (19, 7, 9, [], 3, 0, 1052), (0, 305, 0, [], 3, 0, 0), (2, 0, 2, [], 1, 0, 0), (19, 7, 10, [], 3, 0, 1053), (4, 2, 0, [], 1, 0, 0), (0, 305, 0, [], 3, 0, 0), (30, 129, 5, [1194], 3, 0, 1193), (2, 0, 2, [], 1, 0, 0), (10, 0, 0, [], 1, 0, 0), (19, 7, 10, [], 3, 0, 1053), (0, 1, 0, [], 1, 0, 0), (4, 0, 0, [], 1, 0, 0), (20, 7, 10, [], 3, 0, 1053), (31, 0, 0, [], 1, 0, 0)]
def cd_X7_note : List (Nat × List me_I) := [(0, bk_X7_note_0), (37, bk_X7_note_37)]
theorem bq_X7_note_0 : me_bk cd_X7_note 0 = bk_X7_note_0 := rfl
theorem bq_X7_note_37 : me_bk cd_X7_note 37 = bk_X7_note_37 := rfl
set_option maxRecDepth 100000 in
theorem ck_X7_note : cd_X7_note.all (fun q => me_bck mt_nm RX7 cX7_note 1 none [129] 0 q.2 q.1) = true := by decide +kernel
set_option maxRecDepth 100000 in
theorem cl_X7_note {l : Launch} {R : Room} {fr lo mc : Nat} {sp : me_P} (h : me_M l yX7_note (.code yX7_note cX7_note 1 none) fr lo mc sp) (h1 : fr + 1 ≤ R.frames) (h2 : lo + 20 ≤ R.locals) : me_cal mt_nm l R 131 (mc, sp) := ⟨cX7_note, 1, none, fr, lo, h, List.mem_of_getElem? (i := 1324) (by rfl), h1, by omega, List.mem_of_getElem? (i := 60) (by rfl), by decide, by decide⟩
def bk_X7_begin_0 : List me_I := [(2, 0, 2, [], 1, 0, 0), (19, 7, 7, [], 3, 0, 1050), (0, 0, 0, [], 1, 0, 0), (2, 0, 2, [], 1, 0, 0), (19, 7, 8, [], 3, 0, 1051), (0, 0, 0, [], 1, 0, 0), (0, 305, 0, [], 3, 0, 0), (30, 129, 5, [1194], 3, 0, 1193), (31, 0, 0, [], 1, 0, 0)]
def cd_X7_begin : List (Nat × List me_I) := [(0, bk_X7_begin_0)]
theorem bq_X7_begin_0 : me_bk cd_X7_begin 0 = bk_X7_begin_0 := rfl
set_option maxRecDepth 100000 in
theorem ck_X7_begin : cd_X7_begin.all (fun q => me_bck mt_nm RX7 cX7_begin 1 none [129] 0 q.2 q.1) = true := by decide +kernel
set_option maxRecDepth 100000 in
theorem cl_X7_begin {l : Launch} {R : Room} {fr lo mc : Nat} {sp : me_P} (h : me_M l yX7_begin (.code yX7_begin cX7_begin 1 none) fr lo mc sp) (h1 : fr + 1 ≤ R.frames) (h2 : lo + 20 ≤ R.locals) : me_cal mt_nm l R 132 (mc, sp) := ⟨cX7_begin, 1, none, fr, lo, h, List.mem_of_getElem? (i := 1391) (by rfl), h1, by omega, List.mem_of_getElem? (i := 60) (by rfl), by decide, by decide⟩
def bk_X7_cell_0 : List me_I := [(0, 17, 0, [], 2, 0, 0), (0, 12, 0, [], 2, 0, 0), (2, 0, 0, [], 1, 0, 0), (4, 2, 0, [], 1, 0, 0), (4, 0, 0, [], 1, 0, 0), (2, 1, 0, [], 1, 0, 0), (4, 0, 0, [], 1, 0, 0), (32, 0, 0, [], 1, 0, 0)]
def cd_X7_cell : List (Nat × List me_I) := [(0, bk_X7_cell_0)]
theorem bq_X7_cell_0 : me_bk cd_X7_cell 0 = bk_X7_cell_0 := rfl
set_option maxRecDepth 100000 in
theorem ck_X7_cell : cd_X7_cell.all (fun q => me_bck mt_nm RX7 cX7_cell 2 (some .int) [] 0 q.2 q.1) = true := by decide +kernel
set_option maxRecDepth 100000 in
theorem cl_X7_cell {l : Launch} {R : Room} {fr lo mc : Nat} {sp : me_P} (h : me_M l yX7_cell (.code yX7_cell cX7_cell 2 (some .int)) fr lo mc sp) (h1 : fr + 1 ≤ R.frames) (h2 : lo + 21 ≤ R.locals) : me_cal mt_nm l R 133 (mc, sp) := ⟨cX7_cell, 2, (some .int), fr, lo, h, List.mem_of_getElem? (i := 1169) (by rfl), h1, by omega, List.mem_of_getElem? (i := 60) (by rfl), by decide, by decide⟩
def bk_X7_tempo_0 : List me_I := [(2, 1, 0, [], 1, 0, 0), (3, 2, 0, [], 1, 0, 0)]
def bk_X7_tempo_2 : List me_I := [(2, 2, 0, [], 1, 0, 0), (14, 30, 2, [], 3, 0, 0), (2, 0, 2, [], 1, 0, 0), (2, 2, 0, [], 1, 0, 0), (0, 1, 0, [], 1, 0, 0), (30, 133, 2, [1168], 3, 0, 1167), (21, 0, 0, [], 1, 0, 0), (14, 24, 5, [], 3, 0, 0), (2, 0, 2, [], 1, 0, 0), (2, 2, 0, [], 1, 0, 0), (0, 1, 0, [], 1, 0, 0), (30, 133, 2, [1168], 3, 0, 1167), (21, 0, 0, [], 1, 0, 0), (32, 0, 0, [], 1, 0, 0)]
def bk_X7_tempo_24 : List me_I := [(13, 2, 1, [1], 3, 0, 0), (16, 2, 0, [], 3, 0, 0)]
def bk_X7_tempo_30 : List me_I := [(0, 120, 0, [], 2, 0, 0), (32, 0, 0, [], 1, 0, 0)]
def cd_X7_tempo : List (Nat × List me_I) := [(0, bk_X7_tempo_0), (2, bk_X7_tempo_2), (24, bk_X7_tempo_24), (30, bk_X7_tempo_30)]
theorem bq_X7_tempo_0 : me_bk cd_X7_tempo 0 = bk_X7_tempo_0 := rfl
theorem bq_X7_tempo_2 : me_bk cd_X7_tempo 2 = bk_X7_tempo_2 := rfl
theorem bq_X7_tempo_24 : me_bk cd_X7_tempo 24 = bk_X7_tempo_24 := rfl
theorem bq_X7_tempo_30 : me_bk cd_X7_tempo 30 = bk_X7_tempo_30 := rfl
set_option maxRecDepth 100000 in
theorem ck_X7_tempo : cd_X7_tempo.all (fun q => me_bck mt_nm RX7 cX7_tempo 3 (some .int) [133] 0 q.2 q.1) = true := by decide +kernel
set_option maxRecDepth 100000 in
theorem cl_X7_tempo {l : Launch} {R : Room} {fr lo mc : Nat} {sp : me_P} (h : me_M l yX7_tempo (.code yX7_tempo cX7_tempo 3 (some .int)) fr lo mc sp) (h1 : fr + 1 ≤ R.frames) (h2 : lo + 22 ≤ R.locals) : me_cal mt_nm l R 134 (mc, sp) := ⟨cX7_tempo, 3, (some .int), fr, lo, h, List.mem_of_getElem? (i := 1212) (by rfl), h1, by omega, List.mem_of_getElem? (i := 60) (by rfl), by decide, by decide⟩
def bk_X7_beat_0 : List me_I := [(0, 60000000, 0, [], 2, 0, 1219), (2, 0, 2, [], 1, 0, 0), (2, 1, 0, [], 1, 0, 0), (30, 134, 2, [1211], 3, 0, 1210), (2, 2, 0, [], 1, 0, 0), (4, 2, 0, [], 1, 0, 0), (0, 100, 0, [], 2, 0, 0), (4, 8, 0, [], 1, 0, 0), (4, 8, 0, [], 1, 0, 0), (32, 0, 0, [], 1, 0, 0)]
def cd_X7_beat : List (Nat × List me_I) := [(0, bk_X7_beat_0)]
theorem bq_X7_beat_0 : me_bk cd_X7_beat 0 = bk_X7_beat_0 := rfl
set_option maxRecDepth 100000 in
theorem ck_X7_beat : cd_X7_beat.all (fun q => me_bck mt_nm RX7 cX7_beat 3 (some .int) [134] 0 q.2 q.1) = true := by decide +kernel
set_option maxRecDepth 100000 in
theorem cl_X7_beat {l : Launch} {R : Room} {fr lo mc : Nat} {sp : me_P} (h : me_M l yX7_beat (.code yX7_beat cX7_beat 3 (some .int)) fr lo mc sp) (h1 : fr + 1 ≤ R.frames) (h2 : lo + 22 ≤ R.locals) : me_cal mt_nm l R 135 (mc, sp) := ⟨cX7_beat, 3, (some .int), fr, lo, h, List.mem_of_getElem? (i := 1218) (by rfl), h1, by omega, List.mem_of_getElem? (i := 60) (by rfl), by decide, by decide⟩
def bk_X7_stretches_0 : List me_I := [(0, 0, 0, [], 1, 0, 0), (3, 2, 0, [], 1, 0, 0), (0, 0, 0, [], 1, 0, 0), (3, 3, 0, [], 1, 0, 0)]
def bk_X7_stretches_4 : List me_I := [(2, 3, 0, [], 1, 0, 0), (2, 0, 2, [], 1, 0, 0), (2, 1, 0, [], 1, 0, 0), (0, 0, 0, [], 1, 0, 0), (30, 133, 2, [1168], 3, 0, 1167), (21, 0, 0, [], 1, 0, 0), (15, 33, 3, [], 3, 0, 0), (2, 2, 0, [], 1, 0, 0), (2, 0, 2, [], 1, 0, 0), (2, 1, 0, [], 1, 0, 0), (0, 3, 0, [], 1, 0, 0), (2, 3, 0, [], 1, 0, 0), (4, 0, 0, [], 1, 0, 0), (30, 133, 2, [1168], 3, 0, 1167), (21, 0, 0, [], 1, 0, 0), (4, 0, 0, [], 1, 0, 0), (3, 2, 0, [], 1, 0, 0), (13, 3, 1, [], 3, 0, 0), (16, 4, 0, [], 3, 0, 0)]
def bk_X7_stretches_33 : List me_I := [(2, 2, 0, [], 1, 0, 0), (32, 0, 0, [], 1, 0, 0)]
def cd_X7_stretches : List (Nat × List me_I) := [(0, bk_X7_stretches_0), (4, bk_X7_stretches_4), (33, bk_X7_stretches_33)]
theorem bq_X7_stretches_0 : me_bk cd_X7_stretches 0 = bk_X7_stretches_0 := rfl
theorem bq_X7_stretches_4 : me_bk cd_X7_stretches 4 = bk_X7_stretches_4 := rfl
theorem bq_X7_stretches_33 : me_bk cd_X7_stretches 33 = bk_X7_stretches_33 := rfl
set_option maxRecDepth 100000 in
theorem ck_X7_stretches : cd_X7_stretches.all (fun q => me_bck mt_nm RX7 cX7_stretches 4 (some .int) [133] 0 q.2 q.1) = true := by decide +kernel
set_option maxRecDepth 100000 in
theorem cl_X7_stretches {l : Launch} {R : Room} {fr lo mc : Nat} {sp : me_P} (h : me_M l yX7_stretches (.code yX7_stretches cX7_stretches 4 (some .int)) fr lo mc sp) (h1 : fr + 1 ≤ R.frames) (h2 : lo + 23 ≤ R.locals) : me_cal mt_nm l R 136 (mc, sp) := ⟨cX7_stretches, 4, (some .int), fr, lo, h, List.mem_of_getElem? (i := 1222) (by rfl), h1, by omega, List.mem_of_getElem? (i := 60) (by rfl), by decide, by decide⟩
def bk_X7_sectionOf_0 : List me_I := [(0, 0, 0, [], 1, 0, 0), (3, 2, 0, [], 1, 0, 0)]
def bk_X7_sectionOf_2 : List me_I := [(2, 2, 0, [], 1, 0, 0), (2, 0, 2, [], 1, 0, 0), (0, 1, 0, [], 1, 0, 0), (21, 0, 0, [], 1, 0, 0), (15, 43, 3, [], 3, 0, 0), (2, 1, 0, [], 1, 0, 0), (7, 0, 0, [], 1, 0, 0), (2, 0, 2, [], 1, 0, 0), (0, 5, 0, [], 1, 0, 0), (0, 3, 0, [], 1, 0, 0), (2, 2, 0, [], 1, 0, 0), (4, 2, 0, [], 1, 0, 0), (4, 0, 0, [], 1, 0, 0), (21, 0, 0, [], 1, 0, 0), (7, 0, 0, [], 1, 0, 0), (2, 0, 2, [], 1, 0, 0), (0, 5, 0, [], 1, 0, 0), (0, 3, 0, [], 1, 0, 0), (2, 2, 0, [], 1, 0, 0), (4, 2, 0, [], 1, 0, 0), (4, 0, 0, [], 1, 0, 0), (0, 1, 0, [], 1, 0, 0), (4, 0, 0, [], 1, 0, 0), (21, 0, 0, [], 1, 0, 0), (7, 0, 0, [], 1, 0, 0), (30, 126, 3, [1129], 3, 0, 1128), (14, 37, 0, [], 3, 0, 0), (2, 2, 0, [], 1, 0, 0), (32, 0, 0, [], 1, 0, 0)]
def bk_X7_sectionOf_37 : List me_I := [(13, 2, 1, [], 3, 0, 0), (16, 2, 0, [], 3, 0, 0)]
def bk_X7_sectionOf_43 : List me_I := [(0, 9, 1, [], 2, 0, 0), (32, 0, 0, [], 1, 0, 0)]
def cd_X7_sectionOf : List (Nat × List me_I) := [(0, bk_X7_sectionOf_0), (2, bk_X7_sectionOf_2), (37, bk_X7_sectionOf_37), (43, bk_X7_sectionOf_43)]
theorem bq_X7_sectionOf_0 : me_bk cd_X7_sectionOf 0 = bk_X7_sectionOf_0 := rfl
theorem bq_X7_sectionOf_2 : me_bk cd_X7_sectionOf 2 = bk_X7_sectionOf_2 := rfl
theorem bq_X7_sectionOf_37 : me_bk cd_X7_sectionOf 37 = bk_X7_sectionOf_37 := rfl
theorem bq_X7_sectionOf_43 : me_bk cd_X7_sectionOf 43 = bk_X7_sectionOf_43 := rfl
set_option maxRecDepth 100000 in
theorem ck_X7_sectionOf : cd_X7_sectionOf.all (fun q => me_bck mt_nm RX7 cX7_sectionOf 3 (some .int) [126] 0 q.2 q.1) = true := by decide +kernel
set_option maxRecDepth 100000 in
theorem cl_X7_sectionOf {l : Launch} {R : Room} {fr lo mc : Nat} {sp : me_P} (h : me_M l yX7_sectionOf (.code yX7_sectionOf cX7_sectionOf 3 (some .int)) fr lo mc sp) (h1 : fr + 1 ≤ R.frames) (h2 : lo + 22 ≤ R.locals) : me_cal mt_nm l R 137 (mc, sp) := ⟨cX7_sectionOf, 3, (some .int), fr, lo, h, List.mem_of_getElem? (i := 1215) (by rfl), h1, by omega, List.mem_of_getElem? (i := 60) (by rfl), by decide, by decide⟩
def bk_X7_times_0 : List me_I := [(2, 0, 2, [], 1, 0, 0), (2, 1, 0, [], 1, 0, 0), (30, 137, 2, [1214], 3, 0, 1213), (3, 2, 0, [], 1, 0, 0), (2, 2, 0, [], 1, 0, 0), (0, 9, 1, [], 2, 0, 0), (15, 16, 1, [], 3, 0, 0), (0, 1, 0, [], 1, 0, 0), (16, 25, 0, [], 3, 0, 0)]
def bk_X7_times_16 : List me_I := [(2, 0, 2, [], 1, 0, 0), (0, 5, 0, [], 1, 0, 0), (0, 3, 0, [], 1, 0, 0), (2, 2, 0, [], 1, 0, 0), (4, 2, 0, [], 1, 0, 0), (4, 0, 0, [], 1, 0, 0), (0, 2, 0, [], 1, 0, 0), (4, 0, 0, [], 1, 0, 0), (21, 0, 0, [], 1, 0, 0)]
def bk_X7_times_25 : List me_I := [(32, 0, 0, [], 1, 0, 0)]
def cd_X7_times : List (Nat × List me_I) := [(0, bk_X7_times_0), (16, bk_X7_times_16), (25, bk_X7_times_25)]
theorem bq_X7_times_0 : me_bk cd_X7_times 0 = bk_X7_times_0 := rfl
theorem bq_X7_times_16 : me_bk cd_X7_times 16 = bk_X7_times_16 := rfl
theorem bq_X7_times_25 : me_bk cd_X7_times 25 = bk_X7_times_25 := rfl
set_option maxRecDepth 100000 in
theorem ck_X7_times : cd_X7_times.all (fun q => me_bck mt_nm RX7 cX7_times 3 (some .int) [137] 0 q.2 q.1) = true := by decide +kernel
set_option maxRecDepth 100000 in
theorem cl_X7_times {l : Launch} {R : Room} {fr lo mc : Nat} {sp : me_P} (h : me_M l yX7_times (.code yX7_times cX7_times 3 (some .int)) fr lo mc sp) (h1 : fr + 1 ≤ R.frames) (h2 : lo + 22 ≤ R.locals) : me_cal mt_nm l R 138 (mc, sp) := ⟨cX7_times, 3, (some .int), fr, lo, h, List.mem_of_getElem? (i := 1296) (by rfl), h1, by omega, List.mem_of_getElem? (i := 60) (by rfl), by decide, by decide⟩
def bk_X7_addBarTo_0 : List me_I := [(2, 0, 2, [], 1, 0, 0), (0, 0, 0, [], 1, 0, 0), (21, 0, 0, [], 1, 0, 0), (3, 2, 0, [], 1, 0, 0), (2, 0, 2, [], 1, 0, 0), (2, 2, 0, [], 1, 0, 0), (0, 0, 0, [], 1, 0, 0), (30, 133, 2, [1168], 3, 0, 1167), (2, 1, 0, [], 1, 0, 0), (22, 0, 0, [], 1, 0, 0), (2, 0, 2, [], 1, 0, 0), (2, 2, 0, [], 1, 0, 0), (0, 1, 0, [], 1, 0, 0), (30, 133, 2, [1168], 3, 0, 1167), (0, 0, 0, [], 1, 0, 0), (22, 0, 0, [], 1, 0, 0), (2, 0, 2, [], 1, 0, 0), (2, 2, 0, [], 1, 0, 0), (0, 2, 0, [], 1, 0, 0), (30, 133, 2, [1168], 3, 0, 1167), (0, 0, 0, [], 1, 0, 0), (22, 0, 0, [], 1, 0, 0), (0, 0, 0, [], 1, 0, 0), (3, 3, 0, [], 1, 0, 0)]
def bk_X7_addBarTo_30 : List me_I := [(2, 3, 0, [], 1, 0, 0), (0, 9, 0, [], 2, 0, 0), (15, 52, 3, [], 3, 0, 0), (2, 0, 2, [], 1, 0, 0), (2, 2, 0, [], 1, 0, 0), (0, 3, 0, [], 1, 0, 0), (2, 3, 0, [], 1, 0, 0), (4, 0, 0, [], 1, 0, 0), (30, 133, 2, [1168], 3, 0, 1167), (0, 1, 0, [], 1, 0, 0), (22, 0, 0, [], 1, 0, 0), (13, 3, 1, [], 3, 0, 0), (16, 30, 0, [], 3, 0, 0)]
def bk_X7_addBarTo_52 : List me_I := [(2, 0, 2, [], 1, 0, 0), (0, 0, 0, [], 1, 0, 0), (11, 0, 0, [], 1, 0, 0), (21, 0, 0, [], 1, 0, 0), (0, 1, 0, [], 1, 0, 0), (4, 0, 0, [], 1, 0, 0), (22, 0, 0, [], 1, 0, 0), (31, 0, 0, [], 1, 0, 0)]
def cd_X7_addBarTo : List (Nat × List me_I) := [(0, bk_X7_addBarTo_0), (30, bk_X7_addBarTo_30), (52, bk_X7_addBarTo_52)]
theorem bq_X7_addBarTo_0 : me_bk cd_X7_addBarTo 0 = bk_X7_addBarTo_0 := rfl
theorem bq_X7_addBarTo_30 : me_bk cd_X7_addBarTo 30 = bk_X7_addBarTo_30 := rfl
theorem bq_X7_addBarTo_52 : me_bk cd_X7_addBarTo 52 = bk_X7_addBarTo_52 := rfl
set_option maxRecDepth 100000 in
theorem ck_X7_addBarTo : cd_X7_addBarTo.all (fun q => me_bck mt_nm RX7 cX7_addBarTo 4 none [133] 0 q.2 q.1) = true := by decide +kernel
set_option maxRecDepth 100000 in
theorem cl_X7_addBarTo {l : Launch} {R : Room} {fr lo mc : Nat} {sp : me_P} (h : me_M l yX7_addBarTo (.code yX7_addBarTo cX7_addBarTo 4 none) fr lo mc sp) (h1 : fr + 1 ≤ R.frames) (h2 : lo + 23 ≤ R.locals) : me_cal mt_nm l R 139 (mc, sp) := ⟨cX7_addBarTo, 4, none, fr, lo, h, List.mem_of_getElem? (i := 1166) (by rfl), h1, by omega, List.mem_of_getElem? (i := 60) (by rfl), by decide, by decide⟩
def bk_X7_addPart_0 : List me_I := [(2, 0, 2, [], 1, 0, 0), (0, 1, 0, [], 1, 0, 0), (21, 0, 0, [], 1, 0, 0), (3, 4, 0, [], 2, 0, 0)]
def bk_X7_addPart_5 : List me_I := [(2, 4, 0, [], 2, 0, 0), (14, 69, 5, [], 3, 0, 0), (2, 0, 2, [], 1, 0, 0), (0, 5, 0, [], 1, 0, 0), (0, 3, 0, [], 1, 0, 0), (2, 4, 0, [], 2, 0, 0), (4, 2, 0, [], 1, 0, 0), (4, 0, 0, [], 1, 0, 0), (0, 3, 0, [], 1, 0, 0), (4, 1, 0, [], 1, 0, 0), (21, 0, 0, [], 1, 0, 0), (2, 1, 0, [], 1, 0, 0), (15, 69, 5, [], 3, 0, 0), (0, 0, 0, [], 1, 0, 0), (3, 5, 0, [], 2, 0, 0)]
def bk_X7_addPart_27 : List me_I := [(2, 5, 0, [], 2, 0, 0), (0, 3, 0, [], 1, 0, 0), (15, 63, 3, [], 3, 0, 0), (2, 0, 2, [], 1, 0, 0), (0, 5, 0, [], 1, 0, 0), (0, 3, 0, [], 1, 0, 0), (2, 4, 0, [], 2, 0, 0), (4, 2, 0, [], 1, 0, 0), (4, 0, 0, [], 1, 0, 0), (2, 5, 0, [], 2, 0, 0), (4, 0, 0, [], 1, 0, 0), (2, 0, 2, [], 1, 0, 0), (0, 5, 0, [], 1, 0, 0), (0, 3, 0, [], 1, 0, 0), (2, 4, 0, [], 2, 0, 0), (4, 2, 0, [], 1, 0, 0), (4, 0, 0, [], 1, 0, 0), (0, 3, 0, [], 1, 0, 0), (4, 1, 0, [], 1, 0, 0), (2, 5, 0, [], 2, 0, 0), (4, 0, 0, [], 1, 0, 0), (21, 0, 0, [], 1, 0, 0), (22, 0, 0, [], 1, 0, 0), (13, 5, 1, [], 3, 0, 0), (16, 27, 0, [], 3, 0, 0)]
def bk_X7_addPart_63 : List me_I := [(13, 4, 1, [1], 3, 0, 0), (16, 5, 0, [], 3, 0, 0)]
def bk_X7_addPart_69 : List me_I := [(2, 0, 2, [], 1, 0, 0), (0, 5, 0, [], 1, 0, 0), (0, 3, 0, [], 1, 0, 0), (2, 4, 0, [], 2, 0, 0), (4, 2, 0, [], 1, 0, 0), (4, 0, 0, [], 1, 0, 0), (2, 1, 0, [], 1, 0, 0), (22, 0, 0, [], 1, 0, 0), (2, 0, 2, [], 1, 0, 0), (0, 5, 0, [], 1, 0, 0), (0, 3, 0, [], 1, 0, 0), (2, 4, 0, [], 2, 0, 0), (4, 2, 0, [], 1, 0, 0), (4, 0, 0, [], 1, 0, 0), (0, 1, 0, [], 1, 0, 0), (4, 0, 0, [], 1, 0, 0), (2, 2, 0, [], 1, 0, 0), (22, 0, 0, [], 1, 0, 0), (2, 0, 2, [], 1, 0, 0), (0, 5, 0, [], 1, 0, 0), (0, 3, 0, [], 1, 0, 0), (2, 4, 0, [], 2, 0, 0), (4, 2, 0, [], 1, 0, 0), (4, 0, 0, [], 1, 0, 0), (0, 2, 0, [], 1, 0, 0), (4, 0, 0, [], 1, 0, 0), (2, 3, 0, [], 1, 0, 0), (22, 0, 0, [], 1, 0, 0), (2, 0, 2, [], 1, 0, 0), (0, 1, 0, [], 1, 0, 0), (11, 0, 0, [], 1, 0, 0), (21, 0, 0, [], 1, 0, 0), (0, 1, 0, [], 1, 0, 0), (4, 0, 0, [], 1, 0, 0), (22, 0, 0, [], 1, 0, 0), (2, 4, 0, [], 2, 0, 0), (32, 0, 0, [], 1, 0, 0)]
def cd_X7_addPart : List (Nat × List me_I) := [(0, bk_X7_addPart_0), (5, bk_X7_addPart_5), (27, bk_X7_addPart_27), (63, bk_X7_addPart_63), (69, bk_X7_addPart_69)]
theorem bq_X7_addPart_0 : me_bk cd_X7_addPart 0 = bk_X7_addPart_0 := rfl
theorem bq_X7_addPart_5 : me_bk cd_X7_addPart 5 = bk_X7_addPart_5 := rfl
theorem bq_X7_addPart_27 : me_bk cd_X7_addPart 27 = bk_X7_addPart_27 := rfl
theorem bq_X7_addPart_63 : me_bk cd_X7_addPart 63 = bk_X7_addPart_63 := rfl
theorem bq_X7_addPart_69 : me_bk cd_X7_addPart 69 = bk_X7_addPart_69 := rfl
set_option maxRecDepth 100000 in
theorem ck_X7_addPart : cd_X7_addPart.all (fun q => me_bck mt_nm RX7 cX7_addPart 6 (some .int) [] 0 q.2 q.1) = true := by decide +kernel
set_option maxRecDepth 100000 in
theorem cl_X7_addPart {l : Launch} {R : Room} {fr lo mc : Nat} {sp : me_P} (h : me_M l yX7_addPart (.code yX7_addPart cX7_addPart 6 (some .int)) fr lo mc sp) (h1 : fr + 1 ≤ R.frames) (h2 : lo + 25 ≤ R.locals) : me_cal mt_nm l R 140 (mc, sp) := ⟨cX7_addPart, 6, (some .int), fr, lo, h, List.mem_of_getElem? (i := 1180) (by rfl), h1, by omega, List.mem_of_getElem? (i := 60) (by rfl), by decide, by decide⟩
def bk_X7_dropPart_0 : List me_I := [(0, 5, 0, [], 1, 0, 0), (0, 3, 0, [], 1, 0, 0), (2, 1, 0, [], 1, 0, 0), (4, 2, 0, [], 1, 0, 0), (4, 0, 0, [], 1, 0, 0), (3, 2, 0, [], 1, 0, 0)]
def bk_X7_dropPart_6 : List me_I := [(2, 2, 0, [], 1, 0, 0), (0, 14, 0, [], 2, 0, 0), (15, 26, 3, [], 3, 0, 0), (2, 0, 2, [], 1, 0, 0), (2, 2, 0, [], 1, 0, 0), (2, 0, 2, [], 1, 0, 0), (2, 2, 0, [], 1, 0, 0), (0, 3, 0, [], 1, 0, 0), (4, 0, 0, [], 1, 0, 0), (21, 0, 0, [], 1, 0, 0), (22, 0, 0, [], 1, 0, 0), (13, 2, 1, [], 3, 0, 0), (16, 6, 0, [], 3, 0, 0)]
def bk_X7_dropPart_26 : List me_I := [(2, 0, 2, [], 1, 0, 0), (0, 1, 0, [], 1, 0, 0), (11, 0, 0, [], 1, 0, 0), (21, 0, 0, [], 1, 0, 0), (0, 1, 0, [], 1, 0, 0), (4, 1, 0, [], 1, 0, 0), (22, 0, 0, [], 1, 0, 0), (31, 0, 0, [], 1, 0, 0)]
def cd_X7_dropPart : List (Nat × List me_I) := [(0, bk_X7_dropPart_0), (6, bk_X7_dropPart_6), (26, bk_X7_dropPart_26)]
theorem bq_X7_dropPart_0 : me_bk cd_X7_dropPart 0 = bk_X7_dropPart_0 := rfl
theorem bq_X7_dropPart_6 : me_bk cd_X7_dropPart 6 = bk_X7_dropPart_6 := rfl
theorem bq_X7_dropPart_26 : me_bk cd_X7_dropPart 26 = bk_X7_dropPart_26 := rfl
set_option maxRecDepth 100000 in
theorem ck_X7_dropPart : cd_X7_dropPart.all (fun q => me_bck mt_nm RX7 cX7_dropPart 3 none [] 0 q.2 q.1) = true := by decide +kernel
set_option maxRecDepth 100000 in
theorem cl_X7_dropPart {l : Launch} {R : Room} {fr lo mc : Nat} {sp : me_P} (h : me_M l yX7_dropPart (.code yX7_dropPart cX7_dropPart 3 none) fr lo mc sp) (h1 : fr + 1 ≤ R.frames) (h2 : lo + 22 ≤ R.locals) : me_cal mt_nm l R 141 (mc, sp) := ⟨cX7_dropPart, 3, none, fr, lo, h, List.mem_of_getElem? (i := 1359) (by rfl), h1, by omega, List.mem_of_getElem? (i := 60) (by rfl), by decide, by decide⟩
def bk_X7_withBit_0 : List me_I := [(2, 2, 0, [], 1, 0, 0), (14, 12, 0, [], 3, 0, 0), (2, 0, 0, [], 1, 0, 0), (0, 1, 0, [], 1, 0, 0), (2, 1, 0, [], 1, 0, 0), (4, 6, 0, [], 1, 0, 0), (4, 4, 0, [], 1, 0, 0), (16, 19, 0, [], 3, 0, 0)]
def bk_X7_withBit_12 : List me_I := [(2, 0, 0, [], 1, 0, 0), (0, 1, 0, [], 1, 0, 0), (2, 1, 0, [], 1, 0, 0), (4, 6, 0, [], 1, 0, 0), (0, 1, 1, [], 1, 0, 0), (4, 5, 0, [], 1, 0, 0), (4, 3, 0, [], 1, 0, 0)]
def bk_X7_withBit_19 : List me_I := [(32, 0, 0, [], 1, 0, 0)]
def cd_X7_withBit : List (Nat × List me_I) := [(0, bk_X7_withBit_0), (12, bk_X7_withBit_12), (19, bk_X7_withBit_19)]
theorem bq_X7_withBit_0 : me_bk cd_X7_withBit 0 = bk_X7_withBit_0 := rfl
theorem bq_X7_withBit_12 : me_bk cd_X7_withBit 12 = bk_X7_withBit_12 := rfl
theorem bq_X7_withBit_19 : me_bk cd_X7_withBit 19 = bk_X7_withBit_19 := rfl
set_option maxRecDepth 100000 in
theorem ck_X7_withBit : cd_X7_withBit.all (fun q => me_bck mt_nm RX7 cX7_withBit 3 (some .int) [] 0 q.2 q.1) = true := by decide +kernel
set_option maxRecDepth 100000 in
theorem cl_X7_withBit {l : Launch} {R : Room} {fr lo mc : Nat} {sp : me_P} (h : me_M l yX7_withBit (.code yX7_withBit cX7_withBit 3 (some .int)) fr lo mc sp) (h1 : fr + 1 ≤ R.frames) (h2 : lo + 22 ≤ R.locals) : me_cal mt_nm l R 142 (mc, sp) := ⟨cX7_withBit, 3, (some .int), fr, lo, h, List.mem_of_getElem? (i := 1344) (by rfl), h1, by omega, List.mem_of_getElem? (i := 60) (by rfl), by decide, by decide⟩
def bk_X7_lay_0 : List me_I := [(2, 0, 2, [], 1, 0, 0), (0, 0, 0, [], 1, 0, 0), (20, 7, 16, [], 3, 0, 1059), (2, 0, 2, [], 1, 0, 0), (19, 7, 15, [], 3, 0, 1058), (0, 0, 0, [], 1, 0, 0), (1, 0, 0, [], 1, 0, 0), (24, 0, 0, [], 1, 0, 0), (0, 0, 0, [], 1, 0, 0), (3, 4, 0, [], 2, 0, 0), (0, 1, 0, [], 1, 0, 0), (3, 5, 0, [], 2, 0, 0)]
def bk_X7_lay_18 : List me_I := [(2, 4, 0, [], 2, 0, 0), (2, 1, 2, [], 1, 0, 0), (0, 0, 0, [], 1, 0, 0), (21, 0, 0, [], 1, 0, 0), (15, 257, 3, [], 3, 0, 0), (2, 1, 2, [], 1, 0, 0), (2, 4, 0, [], 2, 0, 0), (0, 2, 0, [], 1, 0, 0), (30, 133, 2, [1168], 3, 0, 1167), (21, 0, 0, [], 1, 0, 0), (2, 5, 0, [], 2, 0, 0), (0, 1, 0, [], 1, 0, 0), (4, 1, 0, [], 1, 0, 0), (30, 127, 2, [1255], 3, 0, 1254), (14, 126, 1, [], 3, 0, 0), (2, 1, 2, [], 1, 0, 0), (0, 2, 0, [], 1, 0, 0), (2, 2, 0, [], 1, 0, 0), (4, 0, 0, [], 1, 0, 0), (21, 0, 0, [], 1, 0, 0), (2, 4, 0, [], 2, 0, 0), (30, 127, 2, [1255], 3, 0, 1254), (14, 126, 1, [], 3, 0, 0), (2, 0, 2, [], 1, 0, 0), (19, 7, 13, [], 3, 0, 1056), (2, 0, 2, [], 1, 0, 0), (19, 7, 16, [], 3, 0, 1059), (2, 4, 0, [], 2, 0, 0), (22, 0, 0, [], 1, 0, 0), (2, 0, 2, [], 1, 0, 0), (19, 7, 14, [], 3, 0, 1057), (2, 0, 2, [], 1, 0, 0), (19, 7, 16, [], 3, 0, 1059), (2, 5, 0, [], 2, 0, 0), (22, 0, 0, [], 1, 0, 0), (2, 0, 2, [], 1, 0, 0), (19, 7, 15, [], 3, 0, 1058), (2, 0, 2, [], 1, 0, 0), (19, 7, 16, [], 3, 0, 1059), (0, 1, 0, [], 1, 0, 0), (4, 0, 0, [], 1, 0, 0), (2, 0, 2, [], 1, 0, 0), (19, 7, 15, [], 3, 0, 1058), (2, 0, 2, [], 1, 0, 0), (19, 7, 16, [], 3, 0, 1059), (23, 0, 0, [], 1, 0, 0), (2, 1, 2, [], 1, 0, 0), (2, 4, 0, [], 2, 0, 0), (2, 3, 0, [], 1, 0, 0), (30, 135, 3, [1217], 3, 0, 1216), (7, 0, 0, [], 1, 0, 0), (2, 1, 2, [], 1, 0, 0), (2, 4, 0, [], 2, 0, 0), (30, 136, 2, [1221], 3, 0, 1220), (7, 0, 0, [], 1, 0, 0), (5, 2, 0, [], 1, 0, 0), (5, 0, 0, [], 1, 0, 0), (24, 0, 0, [], 1, 0, 0), (2, 0, 2, [], 1, 0, 0), (10, 0, 0, [], 1, 0, 0), (19, 7, 16, [], 3, 0, 1059), (0, 1, 0, [], 1, 0, 0), (4, 0, 0, [], 1, 0, 0), (20, 7, 16, [], 3, 0, 1059)]
def bk_X7_lay_126 : List me_I := [(2, 1, 2, [], 1, 0, 0), (2, 4, 0, [], 2, 0, 0), (30, 137, 2, [1214], 3, 0, 1213), (3, 6, 0, [], 2, 0, 0), (2, 6, 0, [], 2, 0, 0), (0, 9, 1, [], 2, 0, 0), (15, 175, 0, [], 3, 0, 0), (2, 4, 0, [], 2, 0, 0), (2, 1, 2, [], 1, 0, 0), (0, 5, 0, [], 1, 0, 0), (0, 3, 0, [], 1, 0, 0), (2, 6, 0, [], 2, 0, 0), (4, 2, 0, [], 1, 0, 0), (4, 0, 0, [], 1, 0, 0), (0, 1, 0, [], 1, 0, 0), (4, 0, 0, [], 1, 0, 0), (21, 0, 0, [], 1, 0, 0), (15, 175, 1, [], 3, 0, 0), (2, 5, 0, [], 2, 0, 0), (2, 1, 2, [], 1, 0, 0), (0, 5, 0, [], 1, 0, 0), (0, 3, 0, [], 1, 0, 0), (2, 6, 0, [], 2, 0, 0), (4, 2, 0, [], 1, 0, 0), (4, 0, 0, [], 1, 0, 0), (0, 2, 0, [], 1, 0, 0), (4, 0, 0, [], 1, 0, 0), (21, 0, 0, [], 1, 0, 0), (15, 175, 3, [], 3, 0, 0), (0, 1, 0, [], 1, 0, 0), (16, 176, 0, [], 3, 0, 0)]
def bk_X7_lay_175 : List me_I := [(0, 0, 0, [], 1, 0, 0)]
def bk_X7_lay_176 : List me_I := [(3, 7, 0, [], 2, 0, 0), (2, 6, 0, [], 2, 0, 0), (0, 9, 1, [], 2, 0, 0), (15, 200, 0, [], 3, 0, 0), (2, 4, 0, [], 2, 0, 0), (2, 1, 2, [], 1, 0, 0), (0, 5, 0, [], 1, 0, 0), (0, 3, 0, [], 1, 0, 0), (2, 6, 0, [], 2, 0, 0), (4, 2, 0, [], 1, 0, 0), (4, 0, 0, [], 1, 0, 0), (0, 1, 0, [], 1, 0, 0), (4, 0, 0, [], 1, 0, 0), (21, 0, 0, [], 1, 0, 0), (15, 204, 1, [], 3, 0, 0)]
def bk_X7_lay_200 : List me_I := [(0, 1, 0, [], 1, 0, 0), (16, 205, 0, [], 3, 0, 0)]
def bk_X7_lay_204 : List me_I := [(0, 0, 0, [], 1, 0, 0)]
def bk_X7_lay_205 : List me_I := [(3, 8, 0, [], 2, 0, 0), (2, 7, 0, [], 2, 0, 0), (14, 219, 0, [], 3, 0, 0), (2, 5, 0, [], 2, 0, 0), (0, 1, 0, [], 1, 0, 0), (4, 0, 0, [], 1, 0, 0), (16, 230, 0, [], 3, 0, 0)]
def bk_X7_lay_219 : List me_I := [(2, 8, 0, [], 2, 0, 0), (14, 228, 0, [], 3, 0, 0), (0, 1, 0, [], 1, 0, 0), (16, 230, 0, [], 3, 0, 0)]
def bk_X7_lay_228 : List me_I := [(2, 5, 0, [], 2, 0, 0)]
def bk_X7_lay_230 : List me_I := [(3, 5, 0, [], 2, 0, 0), (2, 7, 0, [], 2, 0, 0), (14, 248, 0, [], 3, 0, 0), (2, 1, 2, [], 1, 0, 0), (0, 5, 0, [], 1, 0, 0), (0, 3, 0, [], 1, 0, 0), (2, 6, 0, [], 2, 0, 0), (4, 2, 0, [], 1, 0, 0), (4, 0, 0, [], 1, 0, 0), (21, 0, 0, [], 1, 0, 0), (16, 252, 0, [], 3, 0, 0)]
def bk_X7_lay_248 : List me_I := [(2, 4, 0, [], 2, 0, 0), (0, 1, 0, [], 1, 0, 0), (4, 0, 0, [], 1, 0, 0)]
def bk_X7_lay_252 : List me_I := [(3, 4, 0, [], 2, 0, 0), (16, 18, 0, [], 3, 0, 0)]
def bk_X7_lay_257 : List me_I := [(31, 0, 0, [], 1, 0, 0)]
def cd_X7_lay : List (Nat × List me_I) := [(0, bk_X7_lay_0), (18, bk_X7_lay_18), (126, bk_X7_lay_126), (175, bk_X7_lay_175), (176, bk_X7_lay_176), (200, bk_X7_lay_200), (204, bk_X7_lay_204), (205, bk_X7_lay_205), (219, bk_X7_lay_219), (228, bk_X7_lay_228), (230, bk_X7_lay_230), (248, bk_X7_lay_248), (252, bk_X7_lay_252), (257, bk_X7_lay_257)]
theorem bq_X7_lay_0 : me_bk cd_X7_lay 0 = bk_X7_lay_0 := rfl
theorem bq_X7_lay_18 : me_bk cd_X7_lay 18 = bk_X7_lay_18 := rfl
theorem bq_X7_lay_126 : me_bk cd_X7_lay 126 = bk_X7_lay_126 := rfl
theorem bq_X7_lay_175 : me_bk cd_X7_lay 175 = bk_X7_lay_175 := rfl
theorem bq_X7_lay_176 : me_bk cd_X7_lay 176 = bk_X7_lay_176 := rfl
theorem bq_X7_lay_200 : me_bk cd_X7_lay 200 = bk_X7_lay_200 := rfl
theorem bq_X7_lay_204 : me_bk cd_X7_lay 204 = bk_X7_lay_204 := rfl
theorem bq_X7_lay_205 : me_bk cd_X7_lay 205 = bk_X7_lay_205 := rfl
theorem bq_X7_lay_219 : me_bk cd_X7_lay 219 = bk_X7_lay_219 := rfl
theorem bq_X7_lay_228 : me_bk cd_X7_lay 228 = bk_X7_lay_228 := rfl
theorem bq_X7_lay_230 : me_bk cd_X7_lay 230 = bk_X7_lay_230 := rfl
theorem bq_X7_lay_248 : me_bk cd_X7_lay 248 = bk_X7_lay_248 := rfl
theorem bq_X7_lay_252 : me_bk cd_X7_lay 252 = bk_X7_lay_252 := rfl
theorem bq_X7_lay_257 : me_bk cd_X7_lay 257 = bk_X7_lay_257 := rfl
set_option maxRecDepth 100000 in
theorem ck_X7_lay : cd_X7_lay.all (fun q => me_bck mt_nm RX7 cX7_lay 9 none [127, 133, 135, 136, 137] 0 q.2 q.1) = true := by decide +kernel
set_option maxRecDepth 100000 in
theorem cl_X7_lay {l : Launch} {R : Room} {fr lo mc : Nat} {sp : me_P} (h : me_M l yX7_lay (.code yX7_lay cX7_lay 9 none) fr lo mc sp) (h1 : fr + 1 ≤ R.frames) (h2 : lo + 28 ≤ R.locals) : me_cal mt_nm l R 143 (mc, sp) := ⟨cX7_lay, 9, none, fr, lo, h, List.mem_of_getElem? (i := 1253) (by rfl), h1, by omega, List.mem_of_getElem? (i := 60) (by rfl), by decide, by decide⟩
def bk_X7_layClicks_0 : List me_I := [(2, 0, 2, [], 1, 0, 0), (0, 0, 0, [], 1, 0, 0), (20, 7, 18, [], 3, 0, 1061), (0, 0, 0, [], 1, 0, 0), (3, 2, 0, [], 1, 0, 0)]
def bk_X7_layClicks_7 : List me_I := [(2, 2, 0, [], 1, 0, 0), (2, 0, 2, [], 1, 0, 0), (19, 7, 16, [], 3, 0, 1059), (15, 107, 3, [], 3, 0, 0), (2, 0, 2, [], 1, 0, 0), (19, 7, 15, [], 3, 0, 1058), (2, 2, 0, [], 1, 0, 0), (23, 0, 0, [], 1, 0, 0), (3, 3, 1, [], 1, 0, 0), (0, 0, 0, [], 1, 0, 0), (3, 5, 0, [], 2, 0, 0)]
def bk_X7_layClicks_25 : List me_I := [(2, 5, 0, [], 2, 0, 0), (2, 1, 2, [], 1, 0, 0), (2, 0, 2, [], 1, 0, 0), (19, 7, 13, [], 3, 0, 1056), (2, 2, 0, [], 1, 0, 0), (21, 0, 0, [], 1, 0, 0), (0, 0, 0, [], 1, 0, 0), (30, 133, 2, [1168], 3, 0, 1167), (21, 0, 0, [], 1, 0, 0), (15, 101, 3, [], 3, 0, 0), (2, 0, 2, [], 1, 0, 0), (19, 7, 17, [], 3, 0, 1060), (2, 0, 2, [], 1, 0, 0), (19, 7, 18, [], 3, 0, 1061), (2, 3, 1, [], 1, 0, 0), (24, 0, 0, [], 1, 0, 0), (2, 0, 2, [], 1, 0, 0), (10, 0, 0, [], 1, 0, 0), (19, 7, 18, [], 3, 0, 1061), (0, 1, 0, [], 1, 0, 0), (4, 0, 0, [], 1, 0, 0), (20, 7, 18, [], 3, 0, 1061), (2, 3, 1, [], 1, 0, 0), (2, 1, 2, [], 1, 0, 0), (2, 0, 2, [], 1, 0, 0), (19, 7, 13, [], 3, 0, 1056), (2, 2, 0, [], 1, 0, 0), (21, 0, 0, [], 1, 0, 0), (0, 100, 0, [], 2, 0, 0), (30, 135, 3, [1217], 3, 0, 1216), (7, 0, 0, [], 1, 0, 0), (2, 1, 2, [], 1, 0, 0), (2, 0, 2, [], 1, 0, 0), (19, 7, 13, [], 3, 0, 1056), (2, 2, 0, [], 1, 0, 0), (21, 0, 0, [], 1, 0, 0), (0, 3, 0, [], 1, 0, 0), (2, 5, 0, [], 2, 0, 0), (4, 0, 0, [], 1, 0, 0), (30, 133, 2, [1168], 3, 0, 1167), (21, 0, 0, [], 1, 0, 0), (7, 0, 0, [], 1, 0, 0), (5, 2, 0, [], 1, 0, 0), (5, 0, 0, [], 1, 0, 0), (3, 3, 1, [], 1, 0, 0), (13, 5, 1, [], 3, 0, 0), (16, 25, 0, [], 3, 0, 0)]
def bk_X7_layClicks_101 : List me_I := [(13, 2, 1, [], 3, 0, 0), (16, 7, 0, [], 3, 0, 0)]
def bk_X7_layClicks_107 : List me_I := [(31, 0, 0, [], 1, 0, 0)]
def cd_X7_layClicks : List (Nat × List me_I) := [(0, bk_X7_layClicks_0), (7, bk_X7_layClicks_7), (25, bk_X7_layClicks_25), (101, bk_X7_layClicks_101), (107, bk_X7_layClicks_107)]
theorem bq_X7_layClicks_0 : me_bk cd_X7_layClicks 0 = bk_X7_layClicks_0 := rfl
theorem bq_X7_layClicks_7 : me_bk cd_X7_layClicks 7 = bk_X7_layClicks_7 := rfl
theorem bq_X7_layClicks_25 : me_bk cd_X7_layClicks 25 = bk_X7_layClicks_25 := rfl
theorem bq_X7_layClicks_101 : me_bk cd_X7_layClicks 101 = bk_X7_layClicks_101 := rfl
theorem bq_X7_layClicks_107 : me_bk cd_X7_layClicks 107 = bk_X7_layClicks_107 := rfl
set_option maxRecDepth 100000 in
theorem ck_X7_layClicks : cd_X7_layClicks.all (fun q => me_bck mt_nm RX7 cX7_layClicks 6 none [133, 135] 0 q.2 q.1) = true := by decide +kernel
set_option maxRecDepth 100000 in
theorem cl_X7_layClicks {l : Launch} {R : Room} {fr lo mc : Nat} {sp : me_P} (h : me_M l yX7_layClicks (.code yX7_layClicks cX7_layClicks 6 none) fr lo mc sp) (h1 : fr + 1 ≤ R.frames) (h2 : lo + 25 ≤ R.locals) : me_cal mt_nm l R 144 (mc, sp) := ⟨cX7_layClicks, 6, none, fr, lo, h, List.mem_of_getElem? (i := 1260) (by rfl), h1, by omega, List.mem_of_getElem? (i := 60) (by rfl), by decide, by decide⟩
def bk_X7_layNow_0 : List me_I := [(2, 0, 2, [], 1, 0, 0), (2, 0, 2, [], 1, 0, 0), (19, 7, 7, [], 3, 0, 1050), (2, 1, 0, [], 1, 0, 0), (0, 100, 0, [], 2, 0, 0), (29, 143, 3, [7, 1252, 42], 3, 0, 1250), (2, 0, 2, [], 1, 0, 0), (2, 0, 2, [], 1, 0, 0), (19, 7, 7, [], 3, 0, 1050), (29, 144, 1, [7, 1259, 43], 3, 0, 1257), (31, 0, 0, [], 1, 0, 0)]
def cd_X7_layNow : List (Nat × List me_I) := [(0, bk_X7_layNow_0)]
theorem bq_X7_layNow_0 : me_bk cd_X7_layNow 0 = bk_X7_layNow_0 := rfl
set_option maxRecDepth 100000 in
theorem ck_X7_layNow : cd_X7_layNow.all (fun q => me_bck mt_nm RX7 cX7_layNow 2 none [143, 144] 0 q.2 q.1) = true := by decide +kernel
set_option maxRecDepth 100000 in
theorem cl_X7_layNow {l : Launch} {R : Room} {fr lo mc : Nat} {sp : me_P} (h : me_M l yX7_layNow (.code yX7_layNow cX7_layNow 2 none) fr lo mc sp) (h1 : fr + 1 ≤ R.frames) (h2 : lo + 21 ≤ R.locals) : me_cal mt_nm l R 145 (mc, sp) := ⟨cX7_layNow, 2, none, fr, lo, h, List.mem_of_getElem? (i := 1249) (by rfl), h1, by omega, List.mem_of_getElem? (i := 60) (by rfl), by decide, by decide⟩
def bk_X7_layBoth_0 : List me_I := [(2, 0, 2, [], 1, 0, 0), (2, 1, 2, [], 1, 0, 0), (2, 2, 0, [], 1, 0, 0), (0, 100, 0, [], 2, 0, 0), (29, 143, 3, [7, 1252, 42], 3, 0, 1250), (2, 0, 2, [], 1, 0, 0), (2, 1, 2, [], 1, 0, 0), (29, 144, 1, [7, 1259, 43], 3, 0, 1257), (2, 0, 2, [], 1, 0, 0), (2, 0, 2, [], 1, 0, 0), (19, 7, 16, [], 3, 0, 1059), (20, 7, 22, [], 3, 0, 1065), (2, 0, 2, [], 1, 0, 0), (2, 0, 2, [], 1, 0, 0), (19, 7, 18, [], 3, 0, 1061), (20, 7, 24, [], 3, 0, 1067), (0, 0, 0, [], 1, 0, 0), (3, 4, 0, [], 2, 0, 0)]
def bk_X7_layBoth_32 : List me_I := [(2, 4, 0, [], 2, 0, 0), (2, 0, 2, [], 1, 0, 0), (19, 7, 16, [], 3, 0, 1059), (15, 89, 3, [], 3, 0, 0), (2, 0, 2, [], 1, 0, 0), (19, 7, 19, [], 3, 0, 1062), (2, 4, 0, [], 2, 0, 0), (2, 0, 2, [], 1, 0, 0), (19, 7, 13, [], 3, 0, 1056), (2, 4, 0, [], 2, 0, 0), (21, 0, 0, [], 1, 0, 0), (22, 0, 0, [], 1, 0, 0), (2, 0, 2, [], 1, 0, 0), (19, 7, 20, [], 3, 0, 1063), (2, 4, 0, [], 2, 0, 0), (2, 0, 2, [], 1, 0, 0), (19, 7, 14, [], 3, 0, 1057), (2, 4, 0, [], 2, 0, 0), (21, 0, 0, [], 1, 0, 0), (22, 0, 0, [], 1, 0, 0), (2, 0, 2, [], 1, 0, 0), (19, 7, 21, [], 3, 0, 1064), (2, 4, 0, [], 2, 0, 0), (2, 0, 2, [], 1, 0, 0), (19, 7, 15, [], 3, 0, 1058), (2, 4, 0, [], 2, 0, 0), (23, 0, 0, [], 1, 0, 0), (24, 0, 0, [], 1, 0, 0), (13, 4, 1, [], 3, 0, 0), (16, 32, 0, [], 3, 0, 0)]
def bk_X7_layBoth_89 : List me_I := [(0, 0, 0, [], 1, 0, 0), (3, 4, 0, [], 2, 0, 0)]
def bk_X7_layBoth_92 : List me_I := [(2, 4, 0, [], 2, 0, 0), (2, 0, 2, [], 1, 0, 0), (19, 7, 18, [], 3, 0, 1061), (15, 121, 3, [], 3, 0, 0), (2, 0, 2, [], 1, 0, 0), (19, 7, 23, [], 3, 0, 1066), (2, 4, 0, [], 2, 0, 0), (2, 0, 2, [], 1, 0, 0), (19, 7, 17, [], 3, 0, 1060), (2, 4, 0, [], 2, 0, 0), (23, 0, 0, [], 1, 0, 0), (24, 0, 0, [], 1, 0, 0), (13, 4, 1, [], 3, 0, 0), (16, 92, 0, [], 3, 0, 0)]
def bk_X7_layBoth_121 : List me_I := [(2, 0, 2, [], 1, 0, 0), (2, 1, 2, [], 1, 0, 0), (2, 3, 0, [], 1, 0, 0), (0, 100, 0, [], 2, 0, 0), (29, 143, 3, [7, 1252, 42], 3, 0, 1250), (2, 0, 2, [], 1, 0, 0), (2, 1, 2, [], 1, 0, 0), (29, 144, 1, [7, 1259, 43], 3, 0, 1257), (31, 0, 0, [], 1, 0, 0)]
def cd_X7_layBoth : List (Nat × List me_I) := [(0, bk_X7_layBoth_0), (32, bk_X7_layBoth_32), (89, bk_X7_layBoth_89), (92, bk_X7_layBoth_92), (121, bk_X7_layBoth_121)]
theorem bq_X7_layBoth_0 : me_bk cd_X7_layBoth 0 = bk_X7_layBoth_0 := rfl
theorem bq_X7_layBoth_32 : me_bk cd_X7_layBoth 32 = bk_X7_layBoth_32 := rfl
theorem bq_X7_layBoth_89 : me_bk cd_X7_layBoth 89 = bk_X7_layBoth_89 := rfl
theorem bq_X7_layBoth_92 : me_bk cd_X7_layBoth 92 = bk_X7_layBoth_92 := rfl
theorem bq_X7_layBoth_121 : me_bk cd_X7_layBoth 121 = bk_X7_layBoth_121 := rfl
set_option maxRecDepth 100000 in
theorem ck_X7_layBoth : cd_X7_layBoth.all (fun q => me_bck mt_nm RX7 cX7_layBoth 5 none [143, 144] 0 q.2 q.1) = true := by decide +kernel
set_option maxRecDepth 100000 in
theorem cl_X7_layBoth {l : Launch} {R : Room} {fr lo mc : Nat} {sp : me_P} (h : me_M l yX7_layBoth (.code yX7_layBoth cX7_layBoth 5 none) fr lo mc sp) (h1 : fr + 1 ≤ R.frames) (h2 : lo + 24 ≤ R.locals) : me_cal mt_nm l R 146 (mc, sp) := ⟨cX7_layBoth, 5, none, fr, lo, h, List.mem_of_getElem? (i := 1304) (by rfl), h1, by omega, List.mem_of_getElem? (i := 60) (by rfl), by decide, by decide⟩
def bk_X7_partOf_0 : List me_I := [(2, 0, 2, [], 1, 0, 0), (2, 1, 2, [], 1, 0, 0), (2, 2, 0, [], 1, 0, 0), (2, 3, 0, [], 1, 0, 0), (29, 146, 3, [7, 1303, 45], 3, 0, 1301), (0, 0, 0, [], 1, 0, 0), (3, 4, 0, [], 2, 0, 0)]
def bk_X7_partOf_10 : List me_I := [(2, 4, 0, [], 2, 0, 0), (2, 0, 2, [], 1, 0, 0), (19, 7, 16, [], 3, 0, 1059), (15, 68, 3, [], 3, 0, 0), (2, 4, 0, [], 2, 0, 0), (2, 0, 2, [], 1, 0, 0), (19, 7, 22, [], 3, 0, 1065), (15, 68, 3, [], 3, 0, 0), (2, 0, 2, [], 1, 0, 0), (19, 7, 13, [], 3, 0, 1056), (2, 4, 0, [], 2, 0, 0), (21, 0, 0, [], 1, 0, 0), (2, 0, 2, [], 1, 0, 0), (19, 7, 19, [], 3, 0, 1062), (2, 4, 0, [], 2, 0, 0), (21, 0, 0, [], 1, 0, 0), (15, 68, 1, [], 3, 0, 0), (2, 0, 2, [], 1, 0, 0), (19, 7, 14, [], 3, 0, 1057), (2, 4, 0, [], 2, 0, 0), (21, 0, 0, [], 1, 0, 0), (2, 0, 2, [], 1, 0, 0), (19, 7, 20, [], 3, 0, 1063), (2, 4, 0, [], 2, 0, 0), (21, 0, 0, [], 1, 0, 0), (15, 68, 1, [], 3, 0, 0), (13, 4, 1, [], 3, 0, 0), (16, 10, 0, [], 3, 0, 0)]
def bk_X7_partOf_68 : List me_I := [(2, 4, 0, [], 2, 0, 0), (2, 0, 2, [], 1, 0, 0), (19, 7, 16, [], 3, 0, 1059), (15, 91, 1, [], 3, 0, 0), (2, 4, 0, [], 2, 0, 0), (2, 0, 2, [], 1, 0, 0), (19, 7, 22, [], 3, 0, 1065), (15, 91, 1, [], 3, 0, 0), (0, 9, 1, [], 2, 0, 0), (16, 93, 0, [], 3, 0, 0)]
def bk_X7_partOf_91 : List me_I := [(2, 4, 0, [], 2, 0, 0)]
def bk_X7_partOf_93 : List me_I := [(32, 0, 0, [], 1, 0, 0)]
def cd_X7_partOf : List (Nat × List me_I) := [(0, bk_X7_partOf_0), (10, bk_X7_partOf_10), (68, bk_X7_partOf_68), (91, bk_X7_partOf_91), (93, bk_X7_partOf_93)]
theorem bq_X7_partOf_0 : me_bk cd_X7_partOf 0 = bk_X7_partOf_0 := rfl
theorem bq_X7_partOf_10 : me_bk cd_X7_partOf 10 = bk_X7_partOf_10 := rfl
theorem bq_X7_partOf_68 : me_bk cd_X7_partOf 68 = bk_X7_partOf_68 := rfl
theorem bq_X7_partOf_91 : me_bk cd_X7_partOf 91 = bk_X7_partOf_91 := rfl
theorem bq_X7_partOf_93 : me_bk cd_X7_partOf 93 = bk_X7_partOf_93 := rfl
set_option maxRecDepth 100000 in
theorem ck_X7_partOf : cd_X7_partOf.all (fun q => me_bck mt_nm RX7 cX7_partOf 5 (some .int) [146] 0 q.2 q.1) = true := by decide +kernel
set_option maxRecDepth 100000 in
theorem cl_X7_partOf {l : Launch} {R : Room} {fr lo mc : Nat} {sp : me_P} (h : me_M l yX7_partOf (.code yX7_partOf cX7_partOf 5 (some .int)) fr lo mc sp) (h1 : fr + 1 ≤ R.frames) (h2 : lo + 24 ≤ R.locals) : me_cal mt_nm l R 147 (mc, sp) := ⟨cX7_partOf, 5, (some .int), fr, lo, h, List.mem_of_getElem? (i := 1312) (by rfl), h1, by omega, List.mem_of_getElem? (i := 60) (by rfl), by decide, by decide⟩
def bk_X7_append_0 : List me_I := [(2, 0, 2, [], 1, 0, 0), (2, 1, 0, [], 1, 0, 0), (7, 0, 0, [], 1, 0, 0), (1, 0, 0, [], 1, 0, 0), (1, 255, 0, [], 3, 0, 1127), (30, 126, 3, [1129], 3, 0, 1128), (14, 17, 1, [], 3, 0, 0), (0, 1, 0, [], 1, 0, 0), (16, 32, 0, [], 3, 0, 0)]
def bk_X7_append_17 : List me_I := [(2, 0, 2, [], 1, 0, 0), (19, 7, 2, [], 3, 0, 1045), (0, 160, 0, [], 3, 0, 0), (15, 31, 1, [], 3, 0, 0), (0, 2, 0, [], 1, 0, 0), (16, 32, 0, [], 3, 0, 0)]
def bk_X7_append_31 : List me_I := [(0, 0, 0, [], 1, 0, 0)]
def bk_X7_append_32 : List me_I := [(29, 125, 1, [7, 1133, 29], 3, 0, 1131), (14, 40, 0, [], 3, 0, 0), (0, 0, 0, [], 1, 0, 0), (32, 0, 0, [], 1, 0, 0)]
def bk_X7_append_40 : List me_I := [(2, 0, 2, [], 1, 0, 0), (19, 7, 1, [], 3, 0, 1044), (2, 0, 2, [], 1, 0, 0), (19, 7, 2, [], 3, 0, 1045), (2, 1, 0, [], 1, 0, 0), (22, 0, 0, [], 1, 0, 0), (2, 0, 2, [], 1, 0, 0), (10, 0, 0, [], 1, 0, 0), (19, 7, 2, [], 3, 0, 1045), (0, 1, 0, [], 1, 0, 0), (4, 0, 0, [], 1, 0, 0), (20, 7, 2, [], 3, 0, 1045), (2, 0, 2, [], 1, 0, 0), (19, 7, 2, [], 3, 0, 1045), (32, 0, 0, [], 1, 0, 0)]
def cd_X7_append : List (Nat × List me_I) := [(0, bk_X7_append_0), (17, bk_X7_append_17), (31, bk_X7_append_31), (32, bk_X7_append_32), (40, bk_X7_append_40)]
theorem bq_X7_append_0 : me_bk cd_X7_append 0 = bk_X7_append_0 := rfl
theorem bq_X7_append_17 : me_bk cd_X7_append 17 = bk_X7_append_17 := rfl
theorem bq_X7_append_31 : me_bk cd_X7_append 31 = bk_X7_append_31 := rfl
theorem bq_X7_append_32 : me_bk cd_X7_append 32 = bk_X7_append_32 := rfl
theorem bq_X7_append_40 : me_bk cd_X7_append 40 = bk_X7_append_40 := rfl
set_option maxRecDepth 100000 in
theorem ck_X7_append : cd_X7_append.all (fun q => me_bck mt_nm RX7 cX7_append 2 (some .int) [125, 126] 0 q.2 q.1) = true := by decide +kernel
set_option maxRecDepth 100000 in
theorem cl_X7_append {l : Launch} {R : Room} {fr lo mc : Nat} {sp : me_P} (h : me_M l yX7_append (.code yX7_append cX7_append 2 (some .int)) fr lo mc sp) (h1 : fr + 1 ≤ R.frames) (h2 : lo + 21 ≤ R.locals) : me_cal mt_nm l R 148 (mc, sp) := ⟨cX7_append, 2, (some .int), fr, lo, h, List.mem_of_getElem? (i := 1126) (by rfl), h1, by omega, List.mem_of_getElem? (i := 60) (by rfl), by decide, by decide⟩
def bk_X7_clearText_0 : List me_I := [(2, 0, 2, [], 1, 0, 0), (0, 0, 0, [], 1, 0, 0), (20, 7, 0, [], 3, 0, 1043), (2, 0, 2, [], 1, 0, 0), (19, 7, 2, [], 3, 0, 1045), (3, 1, 0, [], 1, 0, 0), (2, 0, 2, [], 1, 0, 0), (0, 0, 0, [], 1, 0, 0), (20, 7, 2, [], 3, 0, 1045), (2, 1, 0, [], 1, 0, 0), (32, 0, 0, [], 1, 0, 0)]
def cd_X7_clearText : List (Nat × List me_I) := [(0, bk_X7_clearText_0)]
theorem bq_X7_clearText_0 : me_bk cd_X7_clearText 0 = bk_X7_clearText_0 := rfl
set_option maxRecDepth 100000 in
theorem ck_X7_clearText : cd_X7_clearText.all (fun q => me_bck mt_nm RX7 cX7_clearText 2 (some .int) [] 0 q.2 q.1) = true := by decide +kernel
set_option maxRecDepth 100000 in
theorem cl_X7_clearText {l : Launch} {R : Room} {fr lo mc : Nat} {sp : me_P} (h : me_M l yX7_clearText (.code yX7_clearText cX7_clearText 2 (some .int)) fr lo mc sp) (h1 : fr + 1 ≤ R.frames) (h2 : lo + 21 ≤ R.locals) : me_cal mt_nm l R 149 (mc, sp) := ⟨cX7_clearText, 2, (some .int), fr, lo, h, List.mem_of_getElem? (i := 1138) (by rfl), h1, by omega, List.mem_of_getElem? (i := 60) (by rfl), by decide, by decide⟩
def bk_X7_isNext_0 : List me_I := [(2, 0, 2, [], 1, 0, 0), (19, 7, 3, [], 3, 0, 1046), (2, 0, 2, [], 1, 0, 0), (19, 7, 2, [], 3, 0, 1045), (15, 28, 3, [], 3, 0, 0), (2, 0, 2, [], 1, 0, 0), (19, 7, 1, [], 3, 0, 1044), (2, 0, 2, [], 1, 0, 0), (19, 7, 3, [], 3, 0, 1046), (21, 0, 0, [], 1, 0, 0), (2, 1, 0, [], 1, 0, 0), (15, 28, 1, [], 3, 0, 0), (0, 1, 0, [], 1, 0, 0), (16, 29, 0, [], 3, 0, 0)]
def bk_X7_isNext_28 : List me_I := [(0, 0, 0, [], 1, 0, 0)]
def bk_X7_isNext_29 : List me_I := [(34, 0, 0, [], 1, 0, 0)]
def cd_X7_isNext : List (Nat × List me_I) := [(0, bk_X7_isNext_0), (28, bk_X7_isNext_28), (29, bk_X7_isNext_29)]
theorem bq_X7_isNext_0 : me_bk cd_X7_isNext 0 = bk_X7_isNext_0 := rfl
theorem bq_X7_isNext_28 : me_bk cd_X7_isNext 28 = bk_X7_isNext_28 := rfl
theorem bq_X7_isNext_29 : me_bk cd_X7_isNext 29 = bk_X7_isNext_29 := rfl
set_option maxRecDepth 100000 in
theorem ck_X7_isNext : cd_X7_isNext.all (fun q => me_bck mt_nm RX7 cX7_isNext 2 (some .boolean) [] 0 q.2 q.1) = true := by decide +kernel
set_option maxRecDepth 100000 in
theorem cl_X7_isNext {l : Launch} {R : Room} {fr lo mc : Nat} {sp : me_P} (h : me_M l yX7_isNext (.code yX7_isNext cX7_isNext 2 (some .boolean)) fr lo mc sp) (h1 : fr + 1 ≤ R.frames) (h2 : lo + 21 ≤ R.locals) : me_cal mt_nm l R 150 (mc, sp) := ⟨cX7_isNext, 2, (some .boolean), fr, lo, h, List.mem_of_getElem? (i := 1150) (by rfl), h1, by omega, List.mem_of_getElem? (i := 60) (by rfl), by decide, by decide⟩
def bk_X7_accept_0 : List me_I := [(2, 0, 2, [], 1, 0, 0), (2, 0, 2, [], 1, 0, 0), (19, 7, 4, [], 3, 0, 1047), (14, 16, 0, [], 3, 0, 0), (2, 1, 0, [], 1, 0, 0), (14, 16, 0, [], 3, 0, 0), (0, 1, 0, [], 1, 0, 0), (16, 17, 0, [], 3, 0, 0)]
def bk_X7_accept_16 : List me_I := [(0, 0, 0, [], 1, 0, 0)]
def bk_X7_accept_17 : List me_I := [(20, 7, 4, [], 3, 0, 1047), (2, 0, 2, [], 1, 0, 0), (10, 0, 0, [], 1, 0, 0), (19, 7, 3, [], 3, 0, 1046), (2, 0, 2, [], 1, 0, 0), (19, 7, 4, [], 3, 0, 1047), (14, 36, 0, [], 3, 0, 0), (0, 1, 0, [], 1, 0, 0), (16, 37, 0, [], 3, 0, 0)]
def bk_X7_accept_36 : List me_I := [(0, 0, 0, [], 1, 0, 0)]
def bk_X7_accept_37 : List me_I := [(4, 0, 0, [], 1, 0, 0), (20, 7, 3, [], 3, 0, 1046), (31, 0, 0, [], 1, 0, 0)]
def cd_X7_accept : List (Nat × List me_I) := [(0, bk_X7_accept_0), (16, bk_X7_accept_16), (17, bk_X7_accept_17), (36, bk_X7_accept_36), (37, bk_X7_accept_37)]
theorem bq_X7_accept_0 : me_bk cd_X7_accept 0 = bk_X7_accept_0 := rfl
theorem bq_X7_accept_16 : me_bk cd_X7_accept 16 = bk_X7_accept_16 := rfl
theorem bq_X7_accept_17 : me_bk cd_X7_accept 17 = bk_X7_accept_17 := rfl
theorem bq_X7_accept_36 : me_bk cd_X7_accept 36 = bk_X7_accept_36 := rfl
theorem bq_X7_accept_37 : me_bk cd_X7_accept 37 = bk_X7_accept_37 := rfl
set_option maxRecDepth 100000 in
theorem ck_X7_accept : cd_X7_accept.all (fun q => me_bck mt_nm RX7 cX7_accept 2 none [] 0 q.2 q.1) = true := by decide +kernel
set_option maxRecDepth 100000 in
theorem cl_X7_accept {l : Launch} {R : Room} {fr lo mc : Nat} {sp : me_P} (h : me_M l yX7_accept (.code yX7_accept cX7_accept 2 none) fr lo mc sp) (h1 : fr + 1 ≤ R.frames) (h2 : lo + 21 ≤ R.locals) : me_cal mt_nm l R 151 (mc, sp) := ⟨cX7_accept, 2, none, fr, lo, h, List.mem_of_getElem? (i := 1154) (by rfl), h1, by omega, List.mem_of_getElem? (i := 60) (by rfl), by decide, by decide⟩
def bk_X7_digit_0 : List me_I := [(2, 0, 2, [], 1, 0, 0), (19, 7, 3, [], 3, 0, 1046), (2, 0, 2, [], 1, 0, 0), (19, 7, 2, [], 3, 0, 1045), (15, 26, 3, [], 3, 0, 0), (2, 0, 2, [], 1, 0, 0), (19, 7, 1, [], 3, 0, 1044), (2, 0, 2, [], 1, 0, 0), (19, 7, 3, [], 3, 0, 1046), (21, 0, 0, [], 1, 0, 0), (0, 48, 0, [], 2, 0, 0), (4, 1, 0, [], 1, 0, 0), (16, 28, 0, [], 3, 0, 0)]
def bk_X7_digit_26 : List me_I := [(0, 9, 1, [], 2, 0, 0)]
def bk_X7_digit_28 : List me_I := [(3, 3, 0, [], 1, 0, 0), (2, 0, 2, [], 1, 0, 0), (2, 3, 0, [], 1, 0, 0), (7, 0, 0, [], 1, 0, 0), (1, 0, 0, [], 1, 0, 0), (1, 9, 0, [], 3, 0, 1163), (30, 126, 3, [1129], 3, 0, 1128), (14, 58, 0, [], 3, 0, 0), (2, 3, 0, [], 1, 0, 0), (7, 0, 0, [], 1, 0, 0), (2, 1, 0, [], 1, 0, 0), (7, 0, 0, [], 1, 0, 0), (2, 2, 0, [], 1, 0, 0), (7, 0, 0, [], 1, 0, 0), (30, 126, 3, [1129], 3, 0, 1128), (14, 58, 0, [], 3, 0, 0), (0, 1, 0, [], 1, 0, 0), (16, 59, 0, [], 3, 0, 0)]
def bk_X7_digit_58 : List me_I := [(0, 0, 0, [], 1, 0, 0)]
def bk_X7_digit_59 : List me_I := [(29, 151, 1, [7, 1153, 32], 3, 0, 1151), (2, 0, 2, [], 1, 0, 0), (19, 7, 4, [], 3, 0, 1047), (14, 73, 0, [], 3, 0, 0), (2, 3, 0, [], 1, 0, 0), (16, 74, 0, [], 3, 0, 0)]
def bk_X7_digit_73 : List me_I := [(2, 1, 0, [], 1, 0, 0)]
def bk_X7_digit_74 : List me_I := [(32, 0, 0, [], 1, 0, 0)]
def cd_X7_digit : List (Nat × List me_I) := [(0, bk_X7_digit_0), (26, bk_X7_digit_26), (28, bk_X7_digit_28), (58, bk_X7_digit_58), (59, bk_X7_digit_59), (73, bk_X7_digit_73), (74, bk_X7_digit_74)]
theorem bq_X7_digit_0 : me_bk cd_X7_digit 0 = bk_X7_digit_0 := rfl
theorem bq_X7_digit_26 : me_bk cd_X7_digit 26 = bk_X7_digit_26 := rfl
theorem bq_X7_digit_28 : me_bk cd_X7_digit 28 = bk_X7_digit_28 := rfl
theorem bq_X7_digit_58 : me_bk cd_X7_digit 58 = bk_X7_digit_58 := rfl
theorem bq_X7_digit_59 : me_bk cd_X7_digit 59 = bk_X7_digit_59 := rfl
theorem bq_X7_digit_73 : me_bk cd_X7_digit 73 = bk_X7_digit_73 := rfl
theorem bq_X7_digit_74 : me_bk cd_X7_digit 74 = bk_X7_digit_74 := rfl
set_option maxRecDepth 100000 in
theorem ck_X7_digit : cd_X7_digit.all (fun q => me_bck mt_nm RX7 cX7_digit 4 (some .int) [126, 151] 0 q.2 q.1) = true := by decide +kernel
set_option maxRecDepth 100000 in
theorem cl_X7_digit {l : Launch} {R : Room} {fr lo mc : Nat} {sp : me_P} (h : me_M l yX7_digit (.code yX7_digit cX7_digit 4 (some .int)) fr lo mc sp) (h1 : fr + 1 ≤ R.frames) (h2 : lo + 23 ≤ R.locals) : me_cal mt_nm l R 152 (mc, sp) := ⟨cX7_digit, 4, (some .int), fr, lo, h, List.mem_of_getElem? (i := 1162) (by rfl), h1, by omega, List.mem_of_getElem? (i := 60) (by rfl), by decide, by decide⟩
def bk_X7_readTempo_0 : List me_I := [(2, 0, 2, [], 1, 0, 0), (0, 0, 0, [], 1, 0, 0), (0, 2, 0, [], 1, 0, 0), (29, 152, 2, [7, 1161, 34], 3, 0, 1159), (3, 1, 0, [], 1, 0, 0), (2, 0, 2, [], 1, 0, 0), (2, 1, 0, [], 1, 0, 0), (14, 16, 1, [], 3, 0, 0), (0, 3, 0, [], 1, 0, 0), (16, 17, 0, [], 3, 0, 0)]
def bk_X7_readTempo_16 : List me_I := [(0, 0, 0, [], 1, 0, 0)]
def bk_X7_readTempo_17 : List me_I := [(2, 1, 0, [], 1, 0, 0), (0, 2, 0, [], 1, 0, 0), (15, 26, 1, [], 3, 0, 0), (0, 4, 0, [], 1, 0, 0), (16, 28, 0, [], 3, 0, 0)]
def bk_X7_readTempo_26 : List me_I := [(0, 9, 0, [], 2, 0, 0)]
def bk_X7_readTempo_28 : List me_I := [(29, 152, 2, [7, 1161, 34], 3, 0, 1159), (3, 2, 0, [], 1, 0, 0), (2, 0, 2, [], 1, 0, 0), (0, 0, 0, [], 1, 0, 0), (2, 1, 0, [], 1, 0, 0), (0, 2, 0, [], 1, 0, 0), (15, 48, 1, [], 3, 0, 0), (2, 2, 0, [], 1, 0, 0), (0, 4, 0, [], 1, 0, 0), (15, 48, 1, [], 3, 0, 0), (0, 0, 0, [], 1, 0, 0), (16, 50, 0, [], 3, 0, 0)]
def bk_X7_readTempo_48 : List me_I := [(0, 9, 0, [], 2, 0, 0)]
def bk_X7_readTempo_50 : List me_I := [(29, 152, 2, [7, 1161, 34], 3, 0, 1159), (3, 3, 0, [], 1, 0, 0), (0, 100, 0, [], 2, 0, 0), (2, 1, 0, [], 1, 0, 0), (4, 2, 0, [], 1, 0, 0), (0, 10, 0, [], 2, 0, 0), (2, 2, 0, [], 1, 0, 0), (4, 2, 0, [], 1, 0, 0), (4, 0, 0, [], 1, 0, 0), (2, 3, 0, [], 1, 0, 0), (4, 0, 0, [], 1, 0, 0), (32, 0, 0, [], 1, 0, 0)]
def cd_X7_readTempo : List (Nat × List me_I) := [(0, bk_X7_readTempo_0), (16, bk_X7_readTempo_16), (17, bk_X7_readTempo_17), (26, bk_X7_readTempo_26), (28, bk_X7_readTempo_28), (48, bk_X7_readTempo_48), (50, bk_X7_readTempo_50)]
theorem bq_X7_readTempo_0 : me_bk cd_X7_readTempo 0 = bk_X7_readTempo_0 := rfl
theorem bq_X7_readTempo_16 : me_bk cd_X7_readTempo 16 = bk_X7_readTempo_16 := rfl
theorem bq_X7_readTempo_17 : me_bk cd_X7_readTempo 17 = bk_X7_readTempo_17 := rfl
theorem bq_X7_readTempo_26 : me_bk cd_X7_readTempo 26 = bk_X7_readTempo_26 := rfl
theorem bq_X7_readTempo_28 : me_bk cd_X7_readTempo 28 = bk_X7_readTempo_28 := rfl
theorem bq_X7_readTempo_48 : me_bk cd_X7_readTempo 48 = bk_X7_readTempo_48 := rfl
theorem bq_X7_readTempo_50 : me_bk cd_X7_readTempo 50 = bk_X7_readTempo_50 := rfl
set_option maxRecDepth 100000 in
theorem ck_X7_readTempo : cd_X7_readTempo.all (fun q => me_bck mt_nm RX7 cX7_readTempo 4 (some .int) [152] 0 q.2 q.1) = true := by decide +kernel
set_option maxRecDepth 100000 in
theorem cl_X7_readTempo {l : Launch} {R : Room} {fr lo mc : Nat} {sp : me_P} (h : me_M l yX7_readTempo (.code yX7_readTempo cX7_readTempo 4 (some .int)) fr lo mc sp) (h1 : fr + 1 ≤ R.frames) (h2 : lo + 23 ≤ R.locals) : me_cal mt_nm l R 153 (mc, sp) := ⟨cX7_readTempo, 4, (some .int), fr, lo, h, List.mem_of_getElem? (i := 1188) (by rfl), h1, by omega, List.mem_of_getElem? (i := 60) (by rfl), by decide, by decide⟩
def bk_X7_readOpen_0 : List me_I := [(2, 0, 2, [], 1, 0, 0), (2, 0, 2, [], 1, 0, 0), (19, 7, 5, [], 3, 0, 1048), (0, 9, 1, [], 2, 0, 0), (15, 35, 1, [], 3, 0, 0), (2, 0, 2, [], 1, 0, 0), (19, 7, 6, [], 3, 0, 1049), (0, 1, 0, [], 1, 0, 0), (21, 0, 0, [], 1, 0, 0), (0, 4, 0, [], 1, 0, 0), (15, 35, 3, [], 3, 0, 0), (2, 0, 2, [], 1, 0, 0), (19, 7, 6, [], 3, 0, 1049), (0, 0, 0, [], 1, 0, 0), (21, 0, 0, [], 1, 0, 0), (0, 24, 0, [], 2, 0, 0), (15, 35, 3, [], 3, 0, 0), (0, 1, 0, [], 1, 0, 0), (16, 36, 0, [], 3, 0, 0)]
def bk_X7_readOpen_35 : List me_I := [(0, 0, 0, [], 1, 0, 0)]
def bk_X7_readOpen_36 : List me_I := [(29, 151, 1, [7, 1153, 32], 3, 0, 1151), (2, 0, 2, [], 1, 0, 0), (2, 0, 2, [], 1, 0, 0), (19, 7, 6, [], 3, 0, 1049), (0, 0, 0, [], 1, 0, 0), (21, 0, 0, [], 1, 0, 0), (20, 7, 5, [], 3, 0, 1048), (31, 0, 0, [], 1, 0, 0)]
def cd_X7_readOpen : List (Nat × List me_I) := [(0, bk_X7_readOpen_0), (35, bk_X7_readOpen_35), (36, bk_X7_readOpen_36)]
theorem bq_X7_readOpen_0 : me_bk cd_X7_readOpen 0 = bk_X7_readOpen_0 := rfl
theorem bq_X7_readOpen_35 : me_bk cd_X7_readOpen 35 = bk_X7_readOpen_35 := rfl
theorem bq_X7_readOpen_36 : me_bk cd_X7_readOpen 36 = bk_X7_readOpen_36 := rfl
set_option maxRecDepth 100000 in
theorem ck_X7_readOpen : cd_X7_readOpen.all (fun q => me_bck mt_nm RX7 cX7_readOpen 1 none [151] 0 q.2 q.1) = true := by decide +kernel
set_option maxRecDepth 100000 in
theorem cl_X7_readOpen {l : Launch} {R : Room} {fr lo mc : Nat} {sp : me_P} (h : me_M l yX7_readOpen (.code yX7_readOpen cX7_readOpen 1 none) fr lo mc sp) (h1 : fr + 1 ≤ R.frames) (h2 : lo + 20 ≤ R.locals) : me_cal mt_nm l R 154 (mc, sp) := ⟨cX7_readOpen, 1, none, fr, lo, h, List.mem_of_getElem? (i := 1173) (by rfl), h1, by omega, List.mem_of_getElem? (i := 60) (by rfl), by decide, by decide⟩
def bk_X7_readClose_0 : List me_I := [(2, 0, 2, [], 1, 0, 0), (2, 0, 2, [], 1, 0, 0), (19, 7, 5, [], 3, 0, 1048), (0, 9, 1, [], 2, 0, 0), (15, 27, 0, [], 3, 0, 0), (2, 0, 2, [], 1, 0, 0), (19, 7, 5, [], 3, 0, 1048), (2, 0, 2, [], 1, 0, 0), (19, 7, 6, [], 3, 0, 1049), (0, 0, 0, [], 1, 0, 0), (21, 0, 0, [], 1, 0, 0), (15, 27, 3, [], 3, 0, 0), (0, 1, 0, [], 1, 0, 0), (16, 28, 0, [], 3, 0, 0)]
def bk_X7_readClose_27 : List me_I := [(0, 0, 0, [], 1, 0, 0)]
def bk_X7_readClose_28 : List me_I := [(29, 151, 1, [7, 1153, 32], 3, 0, 1151), (2, 0, 2, [], 1, 0, 0), (0, 2, 0, [], 1, 0, 0), (0, 4, 0, [], 1, 0, 0), (29, 152, 2, [7, 1161, 34], 3, 0, 1159), (3, 1, 0, [], 1, 0, 0), (2, 0, 2, [], 1, 0, 0), (19, 7, 4, [], 3, 0, 1047), (14, 72, 0, [], 3, 0, 0), (2, 0, 2, [], 1, 0, 0), (19, 7, 6, [], 3, 0, 1049), (2, 0, 2, [], 1, 0, 0), (19, 7, 5, [], 3, 0, 1048), (2, 0, 2, [], 1, 0, 0), (19, 7, 6, [], 3, 0, 1049), (0, 0, 0, [], 1, 0, 0), (21, 0, 0, [], 1, 0, 0), (0, 1, 0, [], 1, 0, 0), (4, 1, 0, [], 1, 0, 0), (2, 1, 0, [], 1, 0, 0), (30, 140, 4, [1179], 3, 0, 1178), (12, 0, 0, [], 1, 0, 0), (2, 0, 2, [], 1, 0, 0), (0, 9, 1, [], 2, 0, 0), (20, 7, 5, [], 3, 0, 1048)]
def bk_X7_readClose_72 : List me_I := [(31, 0, 0, [], 1, 0, 0)]
def cd_X7_readClose : List (Nat × List me_I) := [(0, bk_X7_readClose_0), (27, bk_X7_readClose_27), (28, bk_X7_readClose_28), (72, bk_X7_readClose_72)]
theorem bq_X7_readClose_0 : me_bk cd_X7_readClose 0 = bk_X7_readClose_0 := rfl
theorem bq_X7_readClose_27 : me_bk cd_X7_readClose 27 = bk_X7_readClose_27 := rfl
theorem bq_X7_readClose_28 : me_bk cd_X7_readClose 28 = bk_X7_readClose_28 := rfl
theorem bq_X7_readClose_72 : me_bk cd_X7_readClose 72 = bk_X7_readClose_72 := rfl
set_option maxRecDepth 100000 in
theorem ck_X7_readClose : cd_X7_readClose.all (fun q => me_bck mt_nm RX7 cX7_readClose 2 none [140, 151, 152] 0 q.2 q.1) = true := by decide +kernel
set_option maxRecDepth 100000 in
theorem cl_X7_readClose {l : Launch} {R : Room} {fr lo mc : Nat} {sp : me_P} (h : me_M l yX7_readClose (.code yX7_readClose cX7_readClose 2 none) fr lo mc sp) (h1 : fr + 1 ≤ R.frames) (h2 : lo + 21 ≤ R.locals) : me_cal mt_nm l R 155 (mc, sp) := ⟨cX7_readClose, 2, none, fr, lo, h, List.mem_of_getElem? (i := 1177) (by rfl), h1, by omega, List.mem_of_getElem? (i := 60) (by rfl), by decide, by decide⟩
def bk_X7_readBar_0 : List me_I := [(2, 0, 2, [], 1, 0, 0), (2, 0, 2, [], 1, 0, 0), (19, 7, 6, [], 3, 0, 1049), (0, 0, 0, [], 1, 0, 0), (21, 0, 0, [], 1, 0, 0), (0, 24, 0, [], 2, 0, 0), (15, 16, 3, [], 3, 0, 0), (0, 1, 0, [], 1, 0, 0), (16, 17, 0, [], 3, 0, 0)]
def bk_X7_readBar_16 : List me_I := [(0, 0, 0, [], 1, 0, 0)]
def bk_X7_readBar_17 : List me_I := [(29, 151, 1, [7, 1153, 32], 3, 0, 1151), (2, 0, 2, [], 1, 0, 0), (0, 1, 0, [], 1, 0, 0), (0, 9, 0, [], 2, 0, 0), (29, 152, 2, [7, 1161, 34], 3, 0, 1159), (3, 1, 0, [], 1, 0, 0), (2, 0, 2, [], 1, 0, 0), (19, 7, 4, [], 3, 0, 1047), (14, 43, 0, [], 3, 0, 0), (2, 0, 2, [], 1, 0, 0), (19, 7, 6, [], 3, 0, 1049), (2, 1, 0, [], 1, 0, 0), (30, 139, 2, [1165], 3, 0, 1164)]
def bk_X7_readBar_43 : List me_I := [(31, 0, 0, [], 1, 0, 0)]
def cd_X7_readBar : List (Nat × List me_I) := [(0, bk_X7_readBar_0), (16, bk_X7_readBar_16), (17, bk_X7_readBar_17), (43, bk_X7_readBar_43)]
theorem bq_X7_readBar_0 : me_bk cd_X7_readBar 0 = bk_X7_readBar_0 := rfl
theorem bq_X7_readBar_16 : me_bk cd_X7_readBar 16 = bk_X7_readBar_16 := rfl
theorem bq_X7_readBar_17 : me_bk cd_X7_readBar 17 = bk_X7_readBar_17 := rfl
theorem bq_X7_readBar_43 : me_bk cd_X7_readBar 43 = bk_X7_readBar_43 := rfl
set_option maxRecDepth 100000 in
theorem ck_X7_readBar : cd_X7_readBar.all (fun q => me_bck mt_nm RX7 cX7_readBar 2 none [139, 151, 152] 0 q.2 q.1) = true := by decide +kernel
set_option maxRecDepth 100000 in
theorem cl_X7_readBar {l : Launch} {R : Room} {fr lo mc : Nat} {sp : me_P} (h : me_M l yX7_readBar (.code yX7_readBar cX7_readBar 2 none) fr lo mc sp) (h1 : fr + 1 ≤ R.frames) (h2 : lo + 21 ≤ R.locals) : me_cal mt_nm l R 156 (mc, sp) := ⟨cX7_readBar, 2, none, fr, lo, h, List.mem_of_getElem? (i := 1158) (by rfl), h1, by omega, List.mem_of_getElem? (i := 60) (by rfl), by decide, by decide⟩
def bk_X7_readMore_0 : List me_I := [(2, 0, 2, [], 1, 0, 0), (19, 7, 1, [], 3, 0, 1044), (2, 0, 2, [], 1, 0, 0), (19, 7, 3, [], 3, 0, 1046), (21, 0, 0, [], 1, 0, 0), (3, 1, 0, [], 1, 0, 0), (2, 0, 2, [], 1, 0, 0), (19, 7, 6, [], 3, 0, 1049), (0, 0, 0, [], 1, 0, 0), (21, 0, 0, [], 1, 0, 0), (0, 1, 0, [], 1, 0, 0), (4, 1, 0, [], 1, 0, 0), (3, 2, 0, [], 1, 0, 0), (2, 0, 2, [], 1, 0, 0), (2, 2, 0, [], 1, 0, 0), (14, 46, 2, [], 3, 0, 0), (2, 1, 0, [], 1, 0, 0), (0, 116, 0, [], 2, 0, 0), (15, 42, 0, [], 3, 0, 0), (2, 1, 0, [], 1, 0, 0), (0, 102, 0, [], 2, 0, 0), (15, 42, 0, [], 3, 0, 0), (2, 1, 0, [], 1, 0, 0), (0, 115, 0, [], 2, 0, 0), (15, 46, 1, [], 3, 0, 0)]
def bk_X7_readMore_42 : List me_I := [(0, 1, 0, [], 1, 0, 0), (16, 47, 0, [], 3, 0, 0)]
def bk_X7_readMore_46 : List me_I := [(0, 0, 0, [], 1, 0, 0)]
def bk_X7_readMore_47 : List me_I := [(29, 151, 1, [7, 1153, 32], 3, 0, 1151), (2, 0, 2, [], 1, 0, 0), (19, 7, 4, [], 3, 0, 1047), (14, 58, 1, [], 3, 0, 0), (31, 0, 0, [], 1, 0, 0)]
def bk_X7_readMore_58 : List me_I := [(2, 1, 0, [], 1, 0, 0), (0, 116, 0, [], 2, 0, 0), (15, 94, 1, [], 3, 0, 0), (2, 0, 2, [], 1, 0, 0), (29, 153, 0, [7, 1187, 38], 3, 0, 1185), (3, 3, 0, [], 1, 0, 0), (2, 0, 2, [], 1, 0, 0), (19, 7, 6, [], 3, 0, 1049), (2, 2, 0, [], 1, 0, 0), (0, 1, 0, [], 1, 0, 0), (30, 133, 2, [1168], 3, 0, 1167), (2, 0, 2, [], 1, 0, 0), (19, 7, 4, [], 3, 0, 1047), (14, 89, 0, [], 3, 0, 0), (2, 3, 0, [], 1, 0, 0), (16, 90, 0, [], 3, 0, 0)]
def bk_X7_readMore_89 : List me_I := [(0, 0, 0, [], 1, 0, 0)]
def bk_X7_readMore_90 : List me_I := [(22, 0, 0, [], 1, 0, 0), (16, 179, 0, [], 3, 0, 0)]
def bk_X7_readMore_94 : List me_I := [(2, 1, 0, [], 1, 0, 0), (0, 115, 0, [], 2, 0, 0), (15, 139, 1, [], 3, 0, 0), (2, 0, 2, [], 1, 0, 0), (0, 1, 0, [], 1, 0, 0), (0, 4, 0, [], 1, 0, 0), (29, 152, 2, [7, 1161, 34], 3, 0, 1159), (3, 3, 0, [], 1, 0, 0), (2, 0, 2, [], 1, 0, 0), (19, 7, 6, [], 3, 0, 1049), (2, 2, 0, [], 1, 0, 0), (0, 2, 0, [], 1, 0, 0), (30, 133, 2, [1168], 3, 0, 1167), (11, 0, 0, [], 1, 0, 0), (21, 0, 0, [], 1, 0, 0), (2, 0, 2, [], 1, 0, 0), (19, 7, 4, [], 3, 0, 1047), (14, 133, 0, [], 3, 0, 0), (0, 1, 0, [], 1, 0, 0), (2, 3, 0, [], 1, 0, 0), (0, 1, 0, [], 1, 0, 0), (4, 1, 0, [], 1, 0, 0), (4, 6, 0, [], 1, 0, 0), (16, 134, 0, [], 3, 0, 0)]
def bk_X7_readMore_133 : List me_I := [(0, 0, 0, [], 1, 0, 0)]
def bk_X7_readMore_134 : List me_I := [(4, 4, 0, [], 1, 0, 0), (22, 0, 0, [], 1, 0, 0), (16, 179, 0, [], 3, 0, 0)]
def bk_X7_readMore_139 : List me_I := [(2, 0, 2, [], 1, 0, 0), (0, 1, 0, [], 1, 0, 0), (2, 0, 2, [], 1, 0, 0), (19, 7, 6, [], 3, 0, 1049), (2, 2, 0, [], 1, 0, 0), (0, 0, 0, [], 1, 0, 0), (30, 133, 2, [1168], 3, 0, 1167), (21, 0, 0, [], 1, 0, 0), (29, 152, 2, [7, 1161, 34], 3, 0, 1159), (3, 3, 0, [], 1, 0, 0), (2, 0, 2, [], 1, 0, 0), (0, 2, 0, [], 1, 0, 0), (0, 4, 0, [], 1, 0, 0), (29, 152, 2, [7, 1161, 34], 3, 0, 1159), (3, 4, 0, [], 2, 0, 0), (2, 0, 2, [], 1, 0, 0), (19, 7, 6, [], 3, 0, 1049), (2, 2, 0, [], 1, 0, 0), (0, 3, 0, [], 1, 0, 0), (2, 3, 0, [], 1, 0, 0), (4, 0, 0, [], 1, 0, 0), (0, 1, 0, [], 1, 0, 0), (4, 1, 0, [], 1, 0, 0), (30, 133, 2, [1168], 3, 0, 1167), (2, 4, 0, [], 2, 0, 0), (22, 0, 0, [], 1, 0, 0)]
def bk_X7_readMore_179 : List me_I := [(31, 0, 0, [], 1, 0, 0)]
def cd_X7_readMore : List (Nat × List me_I) := [(0, bk_X7_readMore_0), (42, bk_X7_readMore_42), (46, bk_X7_readMore_46), (47, bk_X7_readMore_47), (58, bk_X7_readMore_58), (89, bk_X7_readMore_89), (90, bk_X7_readMore_90), (94, bk_X7_readMore_94), (133, bk_X7_readMore_133), (134, bk_X7_readMore_134), (139, bk_X7_readMore_139), (179, bk_X7_readMore_179)]
theorem bq_X7_readMore_0 : me_bk cd_X7_readMore 0 = bk_X7_readMore_0 := rfl
theorem bq_X7_readMore_42 : me_bk cd_X7_readMore 42 = bk_X7_readMore_42 := rfl
theorem bq_X7_readMore_46 : me_bk cd_X7_readMore 46 = bk_X7_readMore_46 := rfl
theorem bq_X7_readMore_47 : me_bk cd_X7_readMore 47 = bk_X7_readMore_47 := rfl
theorem bq_X7_readMore_58 : me_bk cd_X7_readMore 58 = bk_X7_readMore_58 := rfl
theorem bq_X7_readMore_89 : me_bk cd_X7_readMore 89 = bk_X7_readMore_89 := rfl
theorem bq_X7_readMore_90 : me_bk cd_X7_readMore 90 = bk_X7_readMore_90 := rfl
theorem bq_X7_readMore_94 : me_bk cd_X7_readMore 94 = bk_X7_readMore_94 := rfl
theorem bq_X7_readMore_133 : me_bk cd_X7_readMore 133 = bk_X7_readMore_133 := rfl
theorem bq_X7_readMore_134 : me_bk cd_X7_readMore 134 = bk_X7_readMore_134 := rfl
theorem bq_X7_readMore_139 : me_bk cd_X7_readMore 139 = bk_X7_readMore_139 := rfl
theorem bq_X7_readMore_179 : me_bk cd_X7_readMore 179 = bk_X7_readMore_179 := rfl
set_option maxRecDepth 100000 in
theorem ck_X7_readMore : cd_X7_readMore.all (fun q => me_bck mt_nm RX7 cX7_readMore 5 none [133, 151, 152, 153] 0 q.2 q.1) = true := by decide +kernel
set_option maxRecDepth 100000 in
theorem cl_X7_readMore {l : Launch} {R : Room} {fr lo mc : Nat} {sp : me_P} (h : me_M l yX7_readMore (.code yX7_readMore cX7_readMore 5 none) fr lo mc sp) (h1 : fr + 1 ≤ R.frames) (h2 : lo + 24 ≤ R.locals) : me_cal mt_nm l R 157 (mc, sp) := ⟨cX7_readMore, 5, none, fr, lo, h, List.mem_of_getElem? (i := 1184) (by rfl), h1, by omega, List.mem_of_getElem? (i := 60) (by rfl), by decide, by decide⟩
def bk_X7_readText_0 : List me_I := [(2, 0, 2, [], 1, 0, 0), (0, 0, 0, [], 1, 0, 0), (20, 7, 3, [], 3, 0, 1046), (2, 0, 2, [], 1, 0, 0), (0, 1, 0, [], 1, 0, 0), (20, 7, 4, [], 3, 0, 1047), (2, 0, 2, [], 1, 0, 0), (0, 9, 1, [], 2, 0, 0), (20, 7, 5, [], 3, 0, 1048), (0, 0, 0, [], 1, 0, 0), (3, 1, 0, [], 1, 0, 0)]
def bk_X7_readText_18 : List me_I := [(2, 1, 0, [], 1, 0, 0), (0, 305, 0, [], 3, 0, 0), (15, 38, 3, [], 3, 0, 0), (2, 0, 2, [], 1, 0, 0), (19, 7, 6, [], 3, 0, 1049), (2, 1, 0, [], 1, 0, 0), (0, 0, 0, [], 1, 0, 0), (22, 0, 0, [], 1, 0, 0), (13, 1, 1, [], 3, 0, 0), (16, 18, 0, [], 3, 0, 0)]
def bk_X7_readText_38 : List me_I := [(2, 0, 2, [], 1, 0, 0), (2, 0, 2, [], 1, 0, 0), (0, 67, 0, [], 2, 0, 0), (29, 150, 1, [7, 1149, 31], 3, 0, 1147), (29, 151, 1, [7, 1153, 32], 3, 0, 1151)]
def bk_X7_readText_48 : List me_I := [(2, 0, 2, [], 1, 0, 0), (19, 7, 4, [], 3, 0, 1047), (14, 121, 0, [], 3, 0, 0), (2, 0, 2, [], 1, 0, 0), (19, 7, 3, [], 3, 0, 1046), (2, 0, 2, [], 1, 0, 0), (19, 7, 2, [], 3, 0, 1045), (15, 121, 3, [], 3, 0, 0), (2, 0, 2, [], 1, 0, 0), (0, 98, 0, [], 2, 0, 0), (29, 150, 1, [7, 1149, 31], 3, 0, 1147), (14, 82, 0, [], 3, 0, 0), (2, 0, 2, [], 1, 0, 0), (29, 156, 0, [7, 1157, 33], 3, 0, 1155), (16, 48, 0, [], 3, 0, 0)]
def bk_X7_readText_82 : List me_I := [(2, 0, 2, [], 1, 0, 0), (0, 40, 0, [], 2, 0, 0), (29, 150, 1, [7, 1149, 31], 3, 0, 1147), (14, 98, 0, [], 3, 0, 0), (2, 0, 2, [], 1, 0, 0), (29, 154, 0, [7, 1172, 35], 3, 0, 1170), (16, 48, 0, [], 3, 0, 0)]
def bk_X7_readText_98 : List me_I := [(2, 0, 2, [], 1, 0, 0), (0, 41, 0, [], 2, 0, 0), (29, 150, 1, [7, 1149, 31], 3, 0, 1147), (14, 114, 0, [], 3, 0, 0), (2, 0, 2, [], 1, 0, 0), (29, 155, 0, [7, 1176, 36], 3, 0, 1174), (16, 48, 0, [], 3, 0, 0)]
def bk_X7_readText_114 : List me_I := [(2, 0, 2, [], 1, 0, 0), (29, 157, 0, [7, 1183, 37], 3, 0, 1181), (16, 48, 0, [], 3, 0, 0)]
def bk_X7_readText_121 : List me_I := [(2, 0, 2, [], 1, 0, 0), (2, 0, 2, [], 1, 0, 0), (19, 7, 5, [], 3, 0, 1048), (0, 9, 1, [], 2, 0, 0), (15, 135, 1, [], 3, 0, 0), (0, 1, 0, [], 1, 0, 0), (16, 136, 0, [], 3, 0, 0)]
def bk_X7_readText_135 : List me_I := [(0, 0, 0, [], 1, 0, 0)]
def bk_X7_readText_136 : List me_I := [(29, 151, 1, [7, 1153, 32], 3, 0, 1151), (2, 0, 2, [], 1, 0, 0), (19, 7, 4, [], 3, 0, 1047), (14, 151, 0, [], 3, 0, 0), (0, 9, 1, [], 2, 0, 0), (16, 155, 0, [], 3, 0, 0)]
def bk_X7_readText_151 : List me_I := [(2, 0, 2, [], 1, 0, 0), (19, 7, 3, [], 3, 0, 1046)]
def bk_X7_readText_155 : List me_I := [(32, 0, 0, [], 1, 0, 0)]
def cd_X7_readText : List (Nat × List me_I) := [(0, bk_X7_readText_0), (18, bk_X7_readText_18), (38, bk_X7_readText_38), (48, bk_X7_readText_48), (82, bk_X7_readText_82), (98, bk_X7_readText_98), (114, bk_X7_readText_114), (121, bk_X7_readText_121), (135, bk_X7_readText_135), (136, bk_X7_readText_136), (151, bk_X7_readText_151), (155, bk_X7_readText_155)]
theorem bq_X7_readText_0 : me_bk cd_X7_readText 0 = bk_X7_readText_0 := rfl
theorem bq_X7_readText_18 : me_bk cd_X7_readText 18 = bk_X7_readText_18 := rfl
theorem bq_X7_readText_38 : me_bk cd_X7_readText 38 = bk_X7_readText_38 := rfl
theorem bq_X7_readText_48 : me_bk cd_X7_readText 48 = bk_X7_readText_48 := rfl
theorem bq_X7_readText_82 : me_bk cd_X7_readText 82 = bk_X7_readText_82 := rfl
theorem bq_X7_readText_98 : me_bk cd_X7_readText 98 = bk_X7_readText_98 := rfl
theorem bq_X7_readText_114 : me_bk cd_X7_readText 114 = bk_X7_readText_114 := rfl
theorem bq_X7_readText_121 : me_bk cd_X7_readText 121 = bk_X7_readText_121 := rfl
theorem bq_X7_readText_135 : me_bk cd_X7_readText 135 = bk_X7_readText_135 := rfl
theorem bq_X7_readText_136 : me_bk cd_X7_readText 136 = bk_X7_readText_136 := rfl
theorem bq_X7_readText_151 : me_bk cd_X7_readText 151 = bk_X7_readText_151 := rfl
theorem bq_X7_readText_155 : me_bk cd_X7_readText 155 = bk_X7_readText_155 := rfl
set_option maxRecDepth 100000 in
theorem ck_X7_readText : cd_X7_readText.all (fun q => me_bck mt_nm RX7 cX7_readText 2 (some .int) [150, 151, 154, 155, 156, 157] 0 q.2 q.1) = true := by decide +kernel
set_option maxRecDepth 100000 in
theorem cl_X7_readText {l : Launch} {R : Room} {fr lo mc : Nat} {sp : me_P} (h : me_M l yX7_readText (.code yX7_readText cX7_readText 2 (some .int)) fr lo mc sp) (h1 : fr + 1 ≤ R.frames) (h2 : lo + 21 ≤ R.locals) : me_cal mt_nm l R 158 (mc, sp) := ⟨cX7_readText, 2, (some .int), fr, lo, h, List.mem_of_getElem? (i := 1146) (by rfl), h1, by omega, List.mem_of_getElem? (i := 60) (by rfl), by decide, by decide⟩
def bk_X7_errorPosition_0 : List me_I := [(2, 0, 2, [], 1, 0, 0), (0, 0, 0, [], 1, 0, 0), (20, 7, 0, [], 3, 0, 1043), (2, 0, 2, [], 1, 0, 0), (29, 158, 0, [7, 1145, 30], 3, 0, 1143), (32, 0, 0, [], 1, 0, 0)]
def cd_X7_errorPosition : List (Nat × List me_I) := [(0, bk_X7_errorPosition_0)]
theorem bq_X7_errorPosition_0 : me_bk cd_X7_errorPosition 0 = bk_X7_errorPosition_0 := rfl
set_option maxRecDepth 100000 in
theorem ck_X7_errorPosition : cd_X7_errorPosition.all (fun q => me_bck mt_nm RX7 cX7_errorPosition 1 (some .int) [158] 0 q.2 q.1) = true := by decide +kernel
set_option maxRecDepth 100000 in
theorem cl_X7_errorPosition {l : Launch} {R : Room} {fr lo mc : Nat} {sp : me_P} (h : me_M l yX7_errorPosition (.code yX7_errorPosition cX7_errorPosition 1 (some .int)) fr lo mc sp) (h1 : fr + 1 ≤ R.frames) (h2 : lo + 20 ≤ R.locals) : me_cal mt_nm l R 159 (mc, sp) := ⟨cX7_errorPosition, 1, (some .int), fr, lo, h, List.mem_of_getElem? (i := 1142) (by rfl), h1, by omega, List.mem_of_getElem? (i := 60) (by rfl), by decide, by decide⟩
def bk_X7_load_0 : List me_I := [(2, 0, 2, [], 1, 0, 0), (2, 0, 2, [], 1, 0, 0), (29, 158, 0, [7, 1145, 30], 3, 0, 1143), (0, 9, 1, [], 2, 0, 0), (15, 14, 1, [], 3, 0, 0), (0, 0, 0, [], 1, 0, 0), (16, 15, 0, [], 3, 0, 0)]
def bk_X7_load_14 : List me_I := [(0, 1, 0, [], 1, 0, 0)]
def bk_X7_load_15 : List me_I := [(29, 125, 1, [7, 1133, 29], 3, 0, 1131), (14, 23, 0, [], 3, 0, 0), (0, 0, 0, [], 1, 0, 0), (32, 0, 0, [], 1, 0, 0)]
def bk_X7_load_23 : List me_I := [(2, 0, 2, [], 1, 0, 0), (19, 7, 6, [], 3, 0, 1049), (0, 0, 0, [], 1, 0, 0), (2, 0, 2, [], 1, 0, 0), (19, 7, 7, [], 3, 0, 1050), (0, 0, 0, [], 1, 0, 0), (0, 305, 0, [], 3, 0, 0), (30, 129, 5, [1194], 3, 0, 1193), (2, 0, 2, [], 1, 0, 0), (0, 0, 0, [], 1, 0, 0), (20, 7, 10, [], 3, 0, 1053), (2, 0, 2, [], 1, 0, 0), (19, 7, 12, [], 3, 0, 1055), (0, 0, 0, [], 1, 0, 0), (0, 0, 0, [], 1, 0, 0), (26, 0, 0, [], 1, 0, 0), (2, 0, 2, [], 1, 0, 0), (19, 7, 12, [], 3, 0, 1055), (0, 1, 0, [], 1, 0, 0), (0, 0, 0, [], 1, 0, 0), (26, 0, 0, [], 1, 0, 0), (2, 0, 2, [], 1, 0, 0), (19, 7, 7, [], 3, 0, 1050), (0, 0, 0, [], 1, 0, 0), (21, 0, 0, [], 1, 0, 0), (32, 0, 0, [], 1, 0, 0)]
def cd_X7_load : List (Nat × List me_I) := [(0, bk_X7_load_0), (14, bk_X7_load_14), (15, bk_X7_load_15), (23, bk_X7_load_23)]
theorem bq_X7_load_0 : me_bk cd_X7_load 0 = bk_X7_load_0 := rfl
theorem bq_X7_load_14 : me_bk cd_X7_load 14 = bk_X7_load_14 := rfl
theorem bq_X7_load_15 : me_bk cd_X7_load 15 = bk_X7_load_15 := rfl
theorem bq_X7_load_23 : me_bk cd_X7_load 23 = bk_X7_load_23 := rfl
set_option maxRecDepth 100000 in
theorem ck_X7_load : cd_X7_load.all (fun q => me_bck mt_nm RX7 cX7_load 1 (some .int) [125, 129, 158] 0 q.2 q.1) = true := by decide +kernel
set_option maxRecDepth 100000 in
theorem cl_X7_load {l : Launch} {R : Room} {fr lo mc : Nat} {sp : me_P} (h : me_M l yX7_load (.code yX7_load cX7_load 1 (some .int)) fr lo mc sp) (h1 : fr + 1 ≤ R.frames) (h2 : lo + 20 ≤ R.locals) : me_cal mt_nm l R 160 (mc, sp) := ⟨cX7_load, 1, (some .int), fr, lo, h, List.mem_of_getElem? (i := 1192) (by rfl), h1, by omega, List.mem_of_getElem? (i := 60) (by rfl), by decide, by decide⟩
def bk_X7_about_0 : List me_I := [(2, 0, 2, [], 1, 0, 0), (2, 1, 0, [], 1, 0, 0), (7, 0, 0, [], 1, 0, 0), (1, 0, 0, [], 1, 0, 0), (1, 4, 0, [], 3, 0, 1200), (30, 126, 3, [1129], 3, 0, 1128), (14, 17, 0, [], 3, 0, 0), (0, 0, 0, [], 1, 0, 0), (16, 18, 0, [], 3, 0, 0)]
def bk_X7_about_17 : List me_I := [(0, 1, 0, [], 1, 0, 0)]
def bk_X7_about_18 : List me_I := [(29, 125, 1, [7, 1133, 29], 3, 0, 1131), (14, 26, 0, [], 3, 0, 0), (0, 0, 0, [], 1, 0, 0), (32, 0, 0, [], 1, 0, 0)]
def bk_X7_about_26 : List me_I := [(0, 0, 0, [], 1, 0, 0), (3, 2, 0, [], 1, 0, 0), (0, 0, 0, [], 1, 0, 0), (3, 3, 0, [], 1, 0, 0), (0, 0, 0, [], 1, 0, 0), (3, 4, 0, [], 2, 0, 0), (0, 0, 0, [], 1, 0, 0), (3, 5, 0, [], 2, 0, 0)]
def bk_X7_about_36 : List me_I := [(2, 5, 0, [], 2, 0, 0), (2, 0, 2, [], 1, 0, 0), (19, 7, 7, [], 3, 0, 1050), (0, 0, 0, [], 1, 0, 0), (21, 0, 0, [], 1, 0, 0), (15, 150, 3, [], 3, 0, 0), (2, 2, 0, [], 1, 0, 0), (2, 0, 2, [], 1, 0, 0), (19, 7, 7, [], 3, 0, 1050), (2, 5, 0, [], 2, 0, 0), (0, 1, 0, [], 1, 0, 0), (30, 133, 2, [1168], 3, 0, 1167), (21, 0, 0, [], 1, 0, 0), (14, 66, 5, [], 3, 0, 0), (0, 1, 0, [], 1, 0, 0), (16, 67, 0, [], 3, 0, 0)]
def bk_X7_about_66 : List me_I := [(0, 0, 0, [], 1, 0, 0)]
def bk_X7_about_67 : List me_I := [(4, 0, 0, [], 1, 0, 0), (3, 2, 0, [], 1, 0, 0), (2, 4, 0, [], 2, 0, 0), (2, 0, 2, [], 1, 0, 0), (19, 7, 7, [], 3, 0, 1050), (2, 5, 0, [], 2, 0, 0), (0, 2, 0, [], 1, 0, 0), (30, 133, 2, [1168], 3, 0, 1167), (21, 0, 0, [], 1, 0, 0), (14, 89, 5, [], 3, 0, 0), (0, 1, 0, [], 1, 0, 0), (16, 90, 0, [], 3, 0, 0)]
def bk_X7_about_89 : List me_I := [(0, 0, 0, [], 1, 0, 0)]
def bk_X7_about_90 : List me_I := [(4, 0, 0, [], 1, 0, 0), (3, 4, 0, [], 2, 0, 0), (0, 0, 0, [], 1, 0, 0), (3, 6, 0, [], 2, 0, 0)]
def bk_X7_about_96 : List me_I := [(2, 6, 0, [], 2, 0, 0), (2, 0, 2, [], 1, 0, 0), (19, 7, 7, [], 3, 0, 1050), (2, 5, 0, [], 2, 0, 0), (0, 0, 0, [], 1, 0, 0), (30, 133, 2, [1168], 3, 0, 1167), (21, 0, 0, [], 1, 0, 0), (15, 144, 3, [], 3, 0, 0), (2, 3, 0, [], 1, 0, 0), (2, 0, 2, [], 1, 0, 0), (19, 7, 7, [], 3, 0, 1050), (2, 5, 0, [], 2, 0, 0), (0, 3, 0, [], 1, 0, 0), (2, 6, 0, [], 2, 0, 0), (4, 0, 0, [], 1, 0, 0), (30, 133, 2, [1168], 3, 0, 1167), (21, 0, 0, [], 1, 0, 0), (0, 1, 0, [], 1, 0, 0), (15, 135, 5, [], 3, 0, 0), (0, 1, 0, [], 1, 0, 0), (16, 136, 0, [], 3, 0, 0)]
def bk_X7_about_135 : List me_I := [(0, 0, 0, [], 1, 0, 0)]
def bk_X7_about_136 : List me_I := [(4, 0, 0, [], 1, 0, 0), (3, 3, 0, [], 1, 0, 0), (13, 6, 1, [], 3, 0, 0), (16, 96, 0, [], 3, 0, 0)]
def bk_X7_about_144 : List me_I := [(13, 5, 1, [], 3, 0, 0), (16, 36, 0, [], 3, 0, 0)]
def bk_X7_about_150 : List me_I := [(2, 1, 0, [], 1, 0, 0), (0, 2, 0, [], 1, 0, 0), (15, 164, 3, [], 3, 0, 0), (2, 0, 2, [], 1, 0, 0), (19, 7, 7, [], 3, 0, 1050), (2, 1, 0, [], 1, 0, 0), (21, 0, 0, [], 1, 0, 0), (16, 184, 0, [], 3, 0, 0)]
def bk_X7_about_164 : List me_I := [(2, 1, 0, [], 1, 0, 0), (0, 2, 0, [], 1, 0, 0), (15, 173, 1, [], 3, 0, 0), (2, 2, 0, [], 1, 0, 0), (16, 184, 0, [], 3, 0, 0)]
def bk_X7_about_173 : List me_I := [(2, 1, 0, [], 1, 0, 0), (0, 3, 0, [], 1, 0, 0), (15, 182, 1, [], 3, 0, 0), (2, 3, 0, [], 1, 0, 0), (16, 184, 0, [], 3, 0, 0)]
def bk_X7_about_182 : List me_I := [(2, 4, 0, [], 2, 0, 0)]
def bk_X7_about_184 : List me_I := [(32, 0, 0, [], 1, 0, 0)]
def cd_X7_about : List (Nat × List me_I) := [(0, bk_X7_about_0), (17, bk_X7_about_17), (18, bk_X7_about_18), (26, bk_X7_about_26), (36, bk_X7_about_36), (66, bk_X7_about_66), (67, bk_X7_about_67), (89, bk_X7_about_89), (90, bk_X7_about_90), (96, bk_X7_about_96), (135, bk_X7_about_135), (136, bk_X7_about_136), (144, bk_X7_about_144), (150, bk_X7_about_150), (164, bk_X7_about_164), (173, bk_X7_about_173), (182, bk_X7_about_182), (184, bk_X7_about_184)]
theorem bq_X7_about_0 : me_bk cd_X7_about 0 = bk_X7_about_0 := rfl
theorem bq_X7_about_17 : me_bk cd_X7_about 17 = bk_X7_about_17 := rfl
theorem bq_X7_about_18 : me_bk cd_X7_about 18 = bk_X7_about_18 := rfl
theorem bq_X7_about_26 : me_bk cd_X7_about 26 = bk_X7_about_26 := rfl
theorem bq_X7_about_36 : me_bk cd_X7_about 36 = bk_X7_about_36 := rfl
theorem bq_X7_about_66 : me_bk cd_X7_about 66 = bk_X7_about_66 := rfl
theorem bq_X7_about_67 : me_bk cd_X7_about 67 = bk_X7_about_67 := rfl
theorem bq_X7_about_89 : me_bk cd_X7_about 89 = bk_X7_about_89 := rfl
theorem bq_X7_about_90 : me_bk cd_X7_about 90 = bk_X7_about_90 := rfl
theorem bq_X7_about_96 : me_bk cd_X7_about 96 = bk_X7_about_96 := rfl
theorem bq_X7_about_135 : me_bk cd_X7_about 135 = bk_X7_about_135 := rfl
theorem bq_X7_about_136 : me_bk cd_X7_about 136 = bk_X7_about_136 := rfl
theorem bq_X7_about_144 : me_bk cd_X7_about 144 = bk_X7_about_144 := rfl
theorem bq_X7_about_150 : me_bk cd_X7_about 150 = bk_X7_about_150 := rfl
theorem bq_X7_about_164 : me_bk cd_X7_about 164 = bk_X7_about_164 := rfl
theorem bq_X7_about_173 : me_bk cd_X7_about 173 = bk_X7_about_173 := rfl
theorem bq_X7_about_182 : me_bk cd_X7_about 182 = bk_X7_about_182 := rfl
theorem bq_X7_about_184 : me_bk cd_X7_about 184 = bk_X7_about_184 := rfl
set_option maxRecDepth 100000 in
theorem ck_X7_about : cd_X7_about.all (fun q => me_bck mt_nm RX7 cX7_about 7 (some .int) [125, 126, 133] 0 q.2 q.1) = true := by decide +kernel
set_option maxRecDepth 100000 in
theorem cl_X7_about {l : Launch} {R : Room} {fr lo mc : Nat} {sp : me_P} (h : me_M l yX7_about (.code yX7_about cX7_about 7 (some .int)) fr lo mc sp) (h1 : fr + 1 ≤ R.frames) (h2 : lo + 26 ≤ R.locals) : me_cal mt_nm l R 161 (mc, sp) := ⟨cX7_about, 7, (some .int), fr, lo, h, List.mem_of_getElem? (i := 1199) (by rfl), h1, by omega, List.mem_of_getElem? (i := 60) (by rfl), by decide, by decide⟩
def bk_X7_isBar_0 : List me_I := [(2, 1, 0, [], 1, 0, 0), (7, 0, 0, [], 1, 0, 0), (1, 0, 0, [], 1, 0, 0), (2, 0, 2, [], 1, 0, 0), (19, 7, 7, [], 3, 0, 1050), (0, 0, 0, [], 1, 0, 0), (21, 0, 0, [], 1, 0, 0), (0, 1, 0, [], 1, 0, 0), (4, 1, 0, [], 1, 0, 0), (7, 0, 0, [], 1, 0, 0), (30, 126, 3, [1129], 3, 0, 1128), (34, 0, 0, [], 1, 0, 0)]
def cd_X7_isBar : List (Nat × List me_I) := [(0, bk_X7_isBar_0)]
theorem bq_X7_isBar_0 : me_bk cd_X7_isBar 0 = bk_X7_isBar_0 := rfl
set_option maxRecDepth 100000 in
theorem ck_X7_isBar : cd_X7_isBar.all (fun q => me_bck mt_nm RX7 cX7_isBar 2 (some .boolean) [126] 0 q.2 q.1) = true := by decide +kernel
set_option maxRecDepth 100000 in
theorem cl_X7_isBar {l : Launch} {R : Room} {fr lo mc : Nat} {sp : me_P} (h : me_M l yX7_isBar (.code yX7_isBar cX7_isBar 2 (some .boolean)) fr lo mc sp) (h1 : fr + 1 ≤ R.frames) (h2 : lo + 21 ≤ R.locals) : me_cal mt_nm l R 162 (mc, sp) := ⟨cX7_isBar, 2, (some .boolean), fr, lo, h, List.mem_of_getElem? (i := 1208) (by rfl), h1, by omega, List.mem_of_getElem? (i := 60) (by rfl), by decide, by decide⟩
def bk_X7_isPlayer_0 : List me_I := [(2, 0, 0, [], 1, 0, 0), (7, 0, 0, [], 1, 0, 0), (1, 0, 0, [], 1, 0, 0), (1, 2, 0, [], 3, 0, 1238), (30, 126, 3, [1129], 3, 0, 1128), (34, 0, 0, [], 1, 0, 0)]
def cd_X7_isPlayer : List (Nat × List me_I) := [(0, bk_X7_isPlayer_0)]
theorem bq_X7_isPlayer_0 : me_bk cd_X7_isPlayer 0 = bk_X7_isPlayer_0 := rfl
set_option maxRecDepth 100000 in
theorem ck_X7_isPlayer : cd_X7_isPlayer.all (fun q => me_bck mt_nm RX7 cX7_isPlayer 1 (some .boolean) [126] 0 q.2 q.1) = true := by decide +kernel
set_option maxRecDepth 100000 in
theorem cl_X7_isPlayer {l : Launch} {R : Room} {fr lo mc : Nat} {sp : me_P} (h : me_M l yX7_isPlayer (.code yX7_isPlayer cX7_isPlayer 1 (some .boolean)) fr lo mc sp) (h1 : fr + 1 ≤ R.frames) (h2 : lo + 20 ≤ R.locals) : me_cal mt_nm l R 163 (mc, sp) := ⟨cX7_isPlayer, 1, (some .boolean), fr, lo, h, List.mem_of_getElem? (i := 1245) (by rfl), h1, by omega, List.mem_of_getElem? (i := 60) (by rfl), by decide, by decide⟩
def bk_X7_bar_0 : List me_I := [(2, 0, 2, [], 1, 0, 0), (2, 0, 2, [], 1, 0, 0), (2, 1, 0, [], 1, 0, 0), (29, 162, 1, [7, 1207, 39], 3, 0, 1205), (14, 13, 1, [], 3, 0, 0), (0, 1, 0, [], 1, 0, 0), (16, 30, 0, [], 3, 0, 0)]
def bk_X7_bar_13 : List me_I := [(2, 2, 0, [], 1, 0, 0), (7, 0, 0, [], 1, 0, 0), (1, 0, 0, [], 1, 0, 0), (1, 5, 0, [], 3, 0, 1209), (30, 126, 3, [1129], 3, 0, 1128), (14, 29, 0, [], 3, 0, 0), (0, 0, 0, [], 1, 0, 0), (16, 30, 0, [], 3, 0, 0)]
def bk_X7_bar_29 : List me_I := [(0, 2, 0, [], 1, 0, 0)]
def bk_X7_bar_30 : List me_I := [(29, 125, 1, [7, 1133, 29], 3, 0, 1131), (14, 38, 0, [], 3, 0, 0), (0, 0, 0, [], 1, 0, 0), (32, 0, 0, [], 1, 0, 0)]
def bk_X7_bar_38 : List me_I := [(2, 2, 0, [], 1, 0, 0), (17, 0, 0, [141, 72, 83, 92, 121, 132], 33, 0, 0)]
def bk_X7_bar_72 : List me_I := [(2, 0, 2, [], 1, 0, 0), (19, 7, 7, [], 3, 0, 1050), (2, 1, 0, [], 1, 0, 0), (0, 0, 0, [], 1, 0, 0), (30, 133, 2, [1168], 3, 0, 1167), (21, 0, 0, [], 1, 0, 0), (32, 0, 0, [], 1, 0, 0)]
def bk_X7_bar_83 : List me_I := [(2, 0, 2, [], 1, 0, 0), (19, 7, 7, [], 3, 0, 1050), (2, 1, 0, [], 1, 0, 0), (30, 134, 2, [1211], 3, 0, 1210), (32, 0, 0, [], 1, 0, 0)]
def bk_X7_bar_92 : List me_I := [(2, 0, 2, [], 1, 0, 0), (19, 7, 7, [], 3, 0, 1050), (2, 1, 0, [], 1, 0, 0), (0, 1, 0, [], 1, 0, 0), (30, 133, 2, [1168], 3, 0, 1167), (21, 0, 0, [], 1, 0, 0), (14, 118, 5, [], 3, 0, 0), (2, 0, 2, [], 1, 0, 0), (19, 7, 7, [], 3, 0, 1050), (2, 1, 0, [], 1, 0, 0), (0, 1, 0, [], 1, 0, 0), (30, 133, 2, [1168], 3, 0, 1167), (21, 0, 0, [], 1, 0, 0), (16, 120, 0, [], 3, 0, 0)]
def bk_X7_bar_118 : List me_I := [(0, 9, 1, [], 2, 0, 0)]
def bk_X7_bar_120 : List me_I := [(32, 0, 0, [], 1, 0, 0)]
def bk_X7_bar_121 : List me_I := [(2, 0, 2, [], 1, 0, 0), (19, 7, 7, [], 3, 0, 1050), (2, 1, 0, [], 1, 0, 0), (0, 2, 0, [], 1, 0, 0), (30, 133, 2, [1168], 3, 0, 1167), (21, 0, 0, [], 1, 0, 0), (32, 0, 0, [], 1, 0, 0)]
def bk_X7_bar_132 : List me_I := [(2, 0, 2, [], 1, 0, 0), (19, 7, 7, [], 3, 0, 1050), (2, 1, 0, [], 1, 0, 0), (30, 137, 2, [1214], 3, 0, 1213), (32, 0, 0, [], 1, 0, 0)]
def bk_X7_bar_141 : List me_I := [(2, 0, 2, [], 1, 0, 0), (19, 7, 7, [], 3, 0, 1050), (2, 1, 0, [], 1, 0, 0), (0, 100, 0, [], 2, 0, 0), (30, 135, 3, [1217], 3, 0, 1216), (2, 0, 2, [], 1, 0, 0), (19, 7, 7, [], 3, 0, 1050), (2, 1, 0, [], 1, 0, 0), (30, 136, 2, [1221], 3, 0, 1220), (4, 2, 0, [], 1, 0, 0), (32, 0, 0, [], 1, 0, 0)]
def cd_X7_bar : List (Nat × List me_I) := [(0, bk_X7_bar_0), (13, bk_X7_bar_13), (29, bk_X7_bar_29), (30, bk_X7_bar_30), (38, bk_X7_bar_38), (72, bk_X7_bar_72), (83, bk_X7_bar_83), (92, bk_X7_bar_92), (118, bk_X7_bar_118), (120, bk_X7_bar_120), (121, bk_X7_bar_121), (132, bk_X7_bar_132), (141, bk_X7_bar_141)]
theorem bq_X7_bar_0 : me_bk cd_X7_bar 0 = bk_X7_bar_0 := rfl
theorem bq_X7_bar_13 : me_bk cd_X7_bar 13 = bk_X7_bar_13 := rfl
theorem bq_X7_bar_29 : me_bk cd_X7_bar 29 = bk_X7_bar_29 := rfl
theorem bq_X7_bar_30 : me_bk cd_X7_bar 30 = bk_X7_bar_30 := rfl
theorem bq_X7_bar_38 : me_bk cd_X7_bar 38 = bk_X7_bar_38 := rfl
theorem bq_X7_bar_72 : me_bk cd_X7_bar 72 = bk_X7_bar_72 := rfl
theorem bq_X7_bar_83 : me_bk cd_X7_bar 83 = bk_X7_bar_83 := rfl
theorem bq_X7_bar_92 : me_bk cd_X7_bar 92 = bk_X7_bar_92 := rfl
theorem bq_X7_bar_118 : me_bk cd_X7_bar 118 = bk_X7_bar_118 := rfl
theorem bq_X7_bar_120 : me_bk cd_X7_bar 120 = bk_X7_bar_120 := rfl
theorem bq_X7_bar_121 : me_bk cd_X7_bar 121 = bk_X7_bar_121 := rfl
theorem bq_X7_bar_132 : me_bk cd_X7_bar 132 = bk_X7_bar_132 := rfl
theorem bq_X7_bar_141 : me_bk cd_X7_bar 141 = bk_X7_bar_141 := rfl
set_option maxRecDepth 100000 in
theorem ck_X7_bar : cd_X7_bar.all (fun q => me_bck mt_nm RX7 cX7_bar 3 (some .int) [125, 126, 133, 134, 135, 136, 137, 162] 0 q.2 q.1) = true := by decide +kernel
set_option maxRecDepth 100000 in
theorem cl_X7_bar {l : Launch} {R : Room} {fr lo mc : Nat} {sp : me_P} (h : me_M l yX7_bar (.code yX7_bar cX7_bar 3 (some .int)) fr lo mc sp) (h1 : fr + 1 ≤ R.frames) (h2 : lo + 22 ≤ R.locals) : me_cal mt_nm l R 164 (mc, sp) := ⟨cX7_bar, 3, (some .int), fr, lo, h, List.mem_of_getElem? (i := 1204) (by rfl), h1, by omega, List.mem_of_getElem? (i := 60) (by rfl), by decide, by decide⟩
def bk_X7_isBeat_0 : List me_I := [(2, 2, 0, [], 1, 0, 0), (7, 0, 0, [], 1, 0, 0), (1, 1, 0, [], 1, 0, 0), (2, 0, 2, [], 1, 0, 0), (2, 1, 0, [], 1, 0, 0), (0, 0, 0, [], 1, 0, 0), (30, 133, 2, [1168], 3, 0, 1167), (21, 0, 0, [], 1, 0, 0), (7, 0, 0, [], 1, 0, 0), (30, 126, 3, [1129], 3, 0, 1128), (34, 0, 0, [], 1, 0, 0)]
def cd_X7_isBeat : List (Nat × List me_I) := [(0, bk_X7_isBeat_0)]
theorem bq_X7_isBeat_0 : me_bk cd_X7_isBeat 0 = bk_X7_isBeat_0 := rfl
set_option maxRecDepth 100000 in
theorem ck_X7_isBeat : cd_X7_isBeat.all (fun q => me_bck mt_nm RX7 cX7_isBeat 3 (some .boolean) [126, 133] 0 q.2 q.1) = true := by decide +kernel
set_option maxRecDepth 100000 in
theorem cl_X7_isBeat {l : Launch} {R : Room} {fr lo mc : Nat} {sp : me_P} (h : me_M l yX7_isBeat (.code yX7_isBeat cX7_isBeat 3 (some .boolean)) fr lo mc sp) (h1 : fr + 1 ≤ R.frames) (h2 : lo + 22 ≤ R.locals) : me_cal mt_nm l R 165 (mc, sp) := ⟨cX7_isBeat, 3, (some .boolean), fr, lo, h, List.mem_of_getElem? (i := 1229) (by rfl), h1, by omega, List.mem_of_getElem? (i := 60) (by rfl), by decide, by decide⟩
def bk_X7_stretch_0 : List me_I := [(2, 0, 2, [], 1, 0, 0), (2, 0, 2, [], 1, 0, 0), (2, 1, 0, [], 1, 0, 0), (29, 162, 1, [7, 1207, 39], 3, 0, 1205), (14, 13, 1, [], 3, 0, 0), (0, 1, 0, [], 1, 0, 0), (16, 30, 0, [], 3, 0, 0)]
def bk_X7_stretch_13 : List me_I := [(2, 0, 2, [], 1, 0, 0), (19, 7, 7, [], 3, 0, 1050), (2, 1, 0, [], 1, 0, 0), (2, 2, 0, [], 1, 0, 0), (30, 165, 3, [1228], 3, 0, 1227), (14, 29, 0, [], 3, 0, 0), (0, 0, 0, [], 1, 0, 0), (16, 30, 0, [], 3, 0, 0)]
def bk_X7_stretch_29 : List me_I := [(0, 2, 0, [], 1, 0, 0)]
def bk_X7_stretch_30 : List me_I := [(29, 125, 1, [7, 1133, 29], 3, 0, 1131), (14, 40, 0, [], 3, 0, 0), (0, 0, 0, [], 1, 0, 0), (16, 54, 0, [], 3, 0, 0)]
def bk_X7_stretch_40 : List me_I := [(2, 0, 2, [], 1, 0, 0), (19, 7, 7, [], 3, 0, 1050), (2, 1, 0, [], 1, 0, 0), (0, 3, 0, [], 1, 0, 0), (2, 2, 0, [], 1, 0, 0), (4, 0, 0, [], 1, 0, 0), (0, 1, 0, [], 1, 0, 0), (4, 1, 0, [], 1, 0, 0), (30, 133, 2, [1168], 3, 0, 1167), (21, 0, 0, [], 1, 0, 0)]
def bk_X7_stretch_54 : List me_I := [(32, 0, 0, [], 1, 0, 0)]
def cd_X7_stretch : List (Nat × List me_I) := [(0, bk_X7_stretch_0), (13, bk_X7_stretch_13), (29, bk_X7_stretch_29), (30, bk_X7_stretch_30), (40, bk_X7_stretch_40), (54, bk_X7_stretch_54)]
theorem bq_X7_stretch_0 : me_bk cd_X7_stretch 0 = bk_X7_stretch_0 := rfl
theorem bq_X7_stretch_13 : me_bk cd_X7_stretch 13 = bk_X7_stretch_13 := rfl
theorem bq_X7_stretch_29 : me_bk cd_X7_stretch 29 = bk_X7_stretch_29 := rfl
theorem bq_X7_stretch_30 : me_bk cd_X7_stretch 30 = bk_X7_stretch_30 := rfl
theorem bq_X7_stretch_40 : me_bk cd_X7_stretch 40 = bk_X7_stretch_40 := rfl
theorem bq_X7_stretch_54 : me_bk cd_X7_stretch 54 = bk_X7_stretch_54 := rfl
set_option maxRecDepth 100000 in
theorem ck_X7_stretch : cd_X7_stretch.all (fun q => me_bck mt_nm RX7 cX7_stretch 3 (some .int) [125, 133, 162, 165] 0 q.2 q.1) = true := by decide +kernel
set_option maxRecDepth 100000 in
theorem cl_X7_stretch {l : Launch} {R : Room} {fr lo mc : Nat} {sp : me_P} (h : me_M l yX7_stretch (.code yX7_stretch cX7_stretch 3 (some .int)) fr lo mc sp) (h1 : fr + 1 ≤ R.frames) (h2 : lo + 22 ≤ R.locals) : me_cal mt_nm l R 166 (mc, sp) := ⟨cX7_stretch, 3, (some .int), fr, lo, h, List.mem_of_getElem? (i := 1226) (by rfl), h1, by omega, List.mem_of_getElem? (i := 60) (by rfl), by decide, by decide⟩
def bk_X7_isPart_0 : List me_I := [(2, 1, 0, [], 1, 0, 0), (7, 0, 0, [], 1, 0, 0), (1, 0, 0, [], 1, 0, 0), (2, 0, 2, [], 1, 0, 0), (19, 7, 7, [], 3, 0, 1050), (0, 1, 0, [], 1, 0, 0), (21, 0, 0, [], 1, 0, 0), (0, 1, 0, [], 1, 0, 0), (4, 1, 0, [], 1, 0, 0), (7, 0, 0, [], 1, 0, 0), (30, 126, 3, [1129], 3, 0, 1128), (34, 0, 0, [], 1, 0, 0)]
def cd_X7_isPart : List (Nat × List me_I) := [(0, bk_X7_isPart_0)]
theorem bq_X7_isPart_0 : me_bk cd_X7_isPart 0 = bk_X7_isPart_0 := rfl
set_option maxRecDepth 100000 in
theorem ck_X7_isPart : cd_X7_isPart.all (fun q => me_bck mt_nm RX7 cX7_isPart 2 (some .boolean) [126] 0 q.2 q.1) = true := by decide +kernel
set_option maxRecDepth 100000 in
theorem cl_X7_isPart {l : Launch} {R : Room} {fr lo mc : Nat} {sp : me_P} (h : me_M l yX7_isPart (.code yX7_isPart cX7_isPart 2 (some .boolean)) fr lo mc sp) (h1 : fr + 1 ≤ R.frames) (h2 : lo + 21 ≤ R.locals) : me_cal mt_nm l R 167 (mc, sp) := ⟨cX7_isPart, 2, (some .boolean), fr, lo, h, List.mem_of_getElem? (i := 1237) (by rfl), h1, by omega, List.mem_of_getElem? (i := 60) (by rfl), by decide, by decide⟩
def bk_X7_section_0 : List me_I := [(2, 0, 2, [], 1, 0, 0), (2, 0, 2, [], 1, 0, 0), (2, 1, 0, [], 1, 0, 0), (29, 167, 1, [7, 1236, 40], 3, 0, 1234), (14, 13, 1, [], 3, 0, 0), (0, 1, 0, [], 1, 0, 0), (16, 30, 0, [], 3, 0, 0)]
def bk_X7_section_13 : List me_I := [(2, 2, 0, [], 1, 0, 0), (7, 0, 0, [], 1, 0, 0), (1, 0, 0, [], 1, 0, 0), (1, 2, 0, [], 3, 0, 1238), (30, 126, 3, [1129], 3, 0, 1128), (14, 29, 0, [], 3, 0, 0), (0, 0, 0, [], 1, 0, 0), (16, 30, 0, [], 3, 0, 0)]
def bk_X7_section_29 : List me_I := [(0, 2, 0, [], 1, 0, 0)]
def bk_X7_section_30 : List me_I := [(29, 125, 1, [7, 1133, 29], 3, 0, 1131), (14, 40, 0, [], 3, 0, 0), (0, 0, 0, [], 1, 0, 0), (16, 52, 0, [], 3, 0, 0)]
def bk_X7_section_40 : List me_I := [(2, 0, 2, [], 1, 0, 0), (19, 7, 7, [], 3, 0, 1050), (0, 5, 0, [], 1, 0, 0), (0, 3, 0, [], 1, 0, 0), (2, 1, 0, [], 1, 0, 0), (4, 2, 0, [], 1, 0, 0), (4, 0, 0, [], 1, 0, 0), (2, 2, 0, [], 1, 0, 0), (4, 0, 0, [], 1, 0, 0), (21, 0, 0, [], 1, 0, 0)]
def bk_X7_section_52 : List me_I := [(32, 0, 0, [], 1, 0, 0)]
def cd_X7_section : List (Nat × List me_I) := [(0, bk_X7_section_0), (13, bk_X7_section_13), (29, bk_X7_section_29), (30, bk_X7_section_30), (40, bk_X7_section_40), (52, bk_X7_section_52)]
theorem bq_X7_section_0 : me_bk cd_X7_section 0 = bk_X7_section_0 := rfl
theorem bq_X7_section_13 : me_bk cd_X7_section 13 = bk_X7_section_13 := rfl
theorem bq_X7_section_29 : me_bk cd_X7_section 29 = bk_X7_section_29 := rfl
theorem bq_X7_section_30 : me_bk cd_X7_section 30 = bk_X7_section_30 := rfl
theorem bq_X7_section_40 : me_bk cd_X7_section 40 = bk_X7_section_40 := rfl
theorem bq_X7_section_52 : me_bk cd_X7_section 52 = bk_X7_section_52 := rfl
set_option maxRecDepth 100000 in
theorem ck_X7_section : cd_X7_section.all (fun q => me_bck mt_nm RX7 cX7_section 3 (some .int) [125, 126, 167] 0 q.2 q.1) = true := by decide +kernel
set_option maxRecDepth 100000 in
theorem cl_X7_section {l : Launch} {R : Room} {fr lo mc : Nat} {sp : me_P} (h : me_M l yX7_section (.code yX7_section cX7_section 3 (some .int)) fr lo mc sp) (h1 : fr + 1 ≤ R.frames) (h2 : lo + 22 ≤ R.locals) : me_cal mt_nm l R 168 (mc, sp) := ⟨cX7_section, 3, (some .int), fr, lo, h, List.mem_of_getElem? (i := 1233) (by rfl), h1, by omega, List.mem_of_getElem? (i := 60) (by rfl), by decide, by decide⟩
def bk_X7_places_0 : List me_I := [(2, 0, 2, [], 1, 0, 0), (2, 1, 0, [], 1, 0, 0), (30, 163, 1, [1244], 3, 0, 1243), (14, 12, 0, [], 3, 0, 0), (0, 0, 0, [], 1, 0, 0), (16, 13, 0, [], 3, 0, 0)]
def bk_X7_places_12 : List me_I := [(0, 1, 0, [], 1, 0, 0)]
def bk_X7_places_13 : List me_I := [(29, 125, 1, [7, 1133, 29], 3, 0, 1131), (14, 21, 0, [], 3, 0, 0), (0, 0, 0, [], 1, 0, 0), (32, 0, 0, [], 1, 0, 0)]
def bk_X7_places_21 : List me_I := [(2, 0, 2, [], 1, 0, 0), (2, 1, 0, [], 1, 0, 0), (29, 145, 1, [7, 1248, 41], 3, 0, 1246), (2, 0, 2, [], 1, 0, 0), (19, 7, 16, [], 3, 0, 1059), (32, 0, 0, [], 1, 0, 0)]
def cd_X7_places : List (Nat × List me_I) := [(0, bk_X7_places_0), (12, bk_X7_places_12), (13, bk_X7_places_13), (21, bk_X7_places_21)]
theorem bq_X7_places_0 : me_bk cd_X7_places 0 = bk_X7_places_0 := rfl
theorem bq_X7_places_12 : me_bk cd_X7_places 12 = bk_X7_places_12 := rfl
theorem bq_X7_places_13 : me_bk cd_X7_places 13 = bk_X7_places_13 := rfl
theorem bq_X7_places_21 : me_bk cd_X7_places 21 = bk_X7_places_21 := rfl
set_option maxRecDepth 100000 in
theorem ck_X7_places : cd_X7_places.all (fun q => me_bck mt_nm RX7 cX7_places 2 (some .int) [125, 145, 163] 0 q.2 q.1) = true := by decide +kernel
set_option maxRecDepth 100000 in
theorem cl_X7_places {l : Launch} {R : Room} {fr lo mc : Nat} {sp : me_P} (h : me_M l yX7_places (.code yX7_places cX7_places 2 (some .int)) fr lo mc sp) (h1 : fr + 1 ≤ R.frames) (h2 : lo + 21 ≤ R.locals) : me_cal mt_nm l R 169 (mc, sp) := ⟨cX7_places, 2, (some .int), fr, lo, h, List.mem_of_getElem? (i := 1242) (by rfl), h1, by omega, List.mem_of_getElem? (i := 60) (by rfl), by decide, by decide⟩
def bk_X7_place_0 : List me_I := [(2, 0, 2, [], 1, 0, 0), (2, 1, 0, [], 1, 0, 0), (30, 163, 1, [1244], 3, 0, 1243), (14, 12, 1, [], 3, 0, 0), (0, 1, 0, [], 1, 0, 0), (16, 33, 0, [], 3, 0, 0)]
def bk_X7_place_12 : List me_I := [(2, 2, 0, [], 1, 0, 0), (14, 28, 2, [], 3, 0, 0), (2, 3, 0, [], 1, 0, 0), (7, 0, 0, [], 1, 0, 0), (1, 0, 0, [], 1, 0, 0), (1, 2, 0, [], 3, 0, 1238), (30, 126, 3, [1129], 3, 0, 1128), (14, 32, 1, [], 3, 0, 0)]
def bk_X7_place_28 : List me_I := [(0, 2, 0, [], 1, 0, 0), (16, 33, 0, [], 3, 0, 0)]
def bk_X7_place_32 : List me_I := [(0, 0, 0, [], 1, 0, 0)]
def bk_X7_place_33 : List me_I := [(29, 125, 1, [7, 1133, 29], 3, 0, 1131), (14, 41, 0, [], 3, 0, 0), (0, 0, 0, [], 1, 0, 0), (32, 0, 0, [], 1, 0, 0)]
def bk_X7_place_41 : List me_I := [(2, 0, 2, [], 1, 0, 0), (2, 1, 0, [], 1, 0, 0), (29, 145, 1, [7, 1248, 41], 3, 0, 1246), (2, 2, 0, [], 1, 0, 0), (2, 0, 2, [], 1, 0, 0), (19, 7, 16, [], 3, 0, 1059), (15, 57, 2, [], 3, 0, 0), (0, 9, 1, [], 2, 0, 0), (32, 0, 0, [], 1, 0, 0)]
def bk_X7_place_57 : List me_I := [(0, 0, 0, [], 1, 0, 0), (3, 4, 0, [], 2, 0, 0), (0, 0, 0, [], 1, 0, 0), (3, 5, 0, [], 2, 0, 0)]
def bk_X7_place_63 : List me_I := [(2, 5, 0, [], 2, 0, 0), (2, 2, 0, [], 1, 0, 0), (15, 101, 3, [], 3, 0, 0), (2, 4, 0, [], 2, 0, 0), (2, 0, 2, [], 1, 0, 0), (19, 7, 13, [], 3, 0, 1056), (2, 5, 0, [], 2, 0, 0), (21, 0, 0, [], 1, 0, 0), (2, 0, 2, [], 1, 0, 0), (19, 7, 13, [], 3, 0, 1056), (2, 2, 0, [], 1, 0, 0), (21, 0, 0, [], 1, 0, 0), (15, 91, 1, [], 3, 0, 0), (0, 1, 0, [], 1, 0, 0), (16, 92, 0, [], 3, 0, 0)]
def bk_X7_place_91 : List me_I := [(0, 0, 0, [], 1, 0, 0)]
def bk_X7_place_92 : List me_I := [(4, 0, 0, [], 1, 0, 0), (3, 4, 0, [], 2, 0, 0), (13, 5, 1, [], 3, 0, 0), (16, 63, 0, [], 3, 0, 0)]
def bk_X7_place_101 : List me_I := [(2, 3, 0, [], 1, 0, 0), (14, 114, 1, [], 3, 0, 0), (2, 0, 2, [], 1, 0, 0), (19, 7, 13, [], 3, 0, 1056), (2, 2, 0, [], 1, 0, 0), (21, 0, 0, [], 1, 0, 0), (16, 130, 0, [], 3, 0, 0)]
def bk_X7_place_114 : List me_I := [(2, 3, 0, [], 1, 0, 0), (0, 1, 0, [], 1, 0, 0), (15, 128, 1, [], 3, 0, 0), (2, 0, 2, [], 1, 0, 0), (19, 7, 14, [], 3, 0, 1057), (2, 2, 0, [], 1, 0, 0), (21, 0, 0, [], 1, 0, 0), (16, 130, 0, [], 3, 0, 0)]
def bk_X7_place_128 : List me_I := [(2, 4, 0, [], 2, 0, 0)]
def bk_X7_place_130 : List me_I := [(32, 0, 0, [], 1, 0, 0)]
def cd_X7_place : List (Nat × List me_I) := [(0, bk_X7_place_0), (12, bk_X7_place_12), (28, bk_X7_place_28), (32, bk_X7_place_32), (33, bk_X7_place_33), (41, bk_X7_place_41), (57, bk_X7_place_57), (63, bk_X7_place_63), (91, bk_X7_place_91), (92, bk_X7_place_92), (101, bk_X7_place_101), (114, bk_X7_place_114), (128, bk_X7_place_128), (130, bk_X7_place_130)]
theorem bq_X7_place_0 : me_bk cd_X7_place 0 = bk_X7_place_0 := rfl
theorem bq_X7_place_12 : me_bk cd_X7_place 12 = bk_X7_place_12 := rfl
theorem bq_X7_place_28 : me_bk cd_X7_place 28 = bk_X7_place_28 := rfl
theorem bq_X7_place_32 : me_bk cd_X7_place 32 = bk_X7_place_32 := rfl
theorem bq_X7_place_33 : me_bk cd_X7_place 33 = bk_X7_place_33 := rfl
theorem bq_X7_place_41 : me_bk cd_X7_place 41 = bk_X7_place_41 := rfl
theorem bq_X7_place_57 : me_bk cd_X7_place 57 = bk_X7_place_57 := rfl
theorem bq_X7_place_63 : me_bk cd_X7_place 63 = bk_X7_place_63 := rfl
theorem bq_X7_place_91 : me_bk cd_X7_place 91 = bk_X7_place_91 := rfl
theorem bq_X7_place_92 : me_bk cd_X7_place 92 = bk_X7_place_92 := rfl
theorem bq_X7_place_101 : me_bk cd_X7_place 101 = bk_X7_place_101 := rfl
theorem bq_X7_place_114 : me_bk cd_X7_place 114 = bk_X7_place_114 := rfl
theorem bq_X7_place_128 : me_bk cd_X7_place 128 = bk_X7_place_128 := rfl
theorem bq_X7_place_130 : me_bk cd_X7_place 130 = bk_X7_place_130 := rfl
set_option maxRecDepth 100000 in
theorem ck_X7_place : cd_X7_place.all (fun q => me_bck mt_nm RX7 cX7_place 6 (some .int) [125, 126, 145, 163] 0 q.2 q.1) = true := by decide +kernel
set_option maxRecDepth 100000 in
theorem cl_X7_place {l : Launch} {R : Room} {fr lo mc : Nat} {sp : me_P} (h : me_M l yX7_place (.code yX7_place cX7_place 6 (some .int)) fr lo mc sp) (h1 : fr + 1 ≤ R.frames) (h2 : lo + 25 ≤ R.locals) : me_cal mt_nm l R 170 (mc, sp) := ⟨cX7_place, 6, (some .int), fr, lo, h, List.mem_of_getElem? (i := 1264) (by rfl), h1, by omega, List.mem_of_getElem? (i := 60) (by rfl), by decide, by decide⟩
def bk_X7_placesOf_0 : List me_I := [(2, 0, 2, [], 1, 0, 0), (2, 1, 0, [], 1, 0, 0), (29, 145, 1, [7, 1248, 41], 3, 0, 1246), (2, 0, 2, [], 1, 0, 0), (19, 7, 16, [], 3, 0, 1059), (32, 0, 0, [], 1, 0, 0)]
def cd_X7_placesOf : List (Nat × List me_I) := [(0, bk_X7_placesOf_0)]
theorem bq_X7_placesOf_0 : me_bk cd_X7_placesOf 0 = bk_X7_placesOf_0 := rfl
set_option maxRecDepth 100000 in
theorem ck_X7_placesOf : cd_X7_placesOf.all (fun q => me_bck mt_nm RX7 cX7_placesOf 2 (some .int) [145] 0 q.2 q.1) = true := by decide +kernel
set_option maxRecDepth 100000 in
theorem cl_X7_placesOf {l : Launch} {R : Room} {fr lo mc : Nat} {sp : me_P} (h : me_M l yX7_placesOf (.code yX7_placesOf cX7_placesOf 2 (some .int)) fr lo mc sp) (h1 : fr + 1 ≤ R.frames) (h2 : lo + 21 ≤ R.locals) : me_cal mt_nm l R 171 (mc, sp) := ⟨cX7_placesOf, 2, (some .int), fr, lo, h, List.mem_of_getElem? (i := 1272) (by rfl), h1, by omega, List.mem_of_getElem? (i := 60) (by rfl), by decide, by decide⟩
def bk_X7_begins_0 : List me_I := [(2, 0, 2, [], 1, 0, 0), (2, 1, 0, [], 1, 0, 0), (30, 163, 1, [1244], 3, 0, 1243), (14, 12, 1, [], 3, 0, 0), (0, 1, 0, [], 1, 0, 0), (16, 32, 0, [], 3, 0, 0)]
def bk_X7_begins_12 : List me_I := [(2, 2, 0, [], 1, 0, 0), (7, 0, 0, [], 1, 0, 0), (1, 0, 0, [], 1, 0, 0), (2, 0, 2, [], 1, 0, 0), (2, 1, 0, [], 1, 0, 0), (29, 171, 1, [7, 1271, 44], 3, 0, 1269), (7, 0, 0, [], 1, 0, 0), (30, 126, 3, [1129], 3, 0, 1128), (14, 31, 0, [], 3, 0, 0), (0, 0, 0, [], 1, 0, 0), (16, 32, 0, [], 3, 0, 0)]
def bk_X7_begins_31 : List me_I := [(0, 2, 0, [], 1, 0, 0)]
def bk_X7_begins_32 : List me_I := [(29, 125, 1, [7, 1133, 29], 3, 0, 1131), (14, 40, 0, [], 3, 0, 0), (1, 0, 0, [], 1, 0, 0), (33, 0, 0, [], 1, 0, 0)]
def bk_X7_begins_40 : List me_I := [(2, 0, 2, [], 1, 0, 0), (19, 7, 15, [], 3, 0, 1058), (2, 2, 0, [], 1, 0, 0), (23, 0, 0, [], 1, 0, 0), (33, 0, 0, [], 1, 0, 0)]
def cd_X7_begins : List (Nat × List me_I) := [(0, bk_X7_begins_0), (12, bk_X7_begins_12), (31, bk_X7_begins_31), (32, bk_X7_begins_32), (40, bk_X7_begins_40)]
theorem bq_X7_begins_0 : me_bk cd_X7_begins 0 = bk_X7_begins_0 := rfl
theorem bq_X7_begins_12 : me_bk cd_X7_begins 12 = bk_X7_begins_12 := rfl
theorem bq_X7_begins_31 : me_bk cd_X7_begins 31 = bk_X7_begins_31 := rfl
theorem bq_X7_begins_32 : me_bk cd_X7_begins 32 = bk_X7_begins_32 := rfl
theorem bq_X7_begins_40 : me_bk cd_X7_begins 40 = bk_X7_begins_40 := rfl
set_option maxRecDepth 100000 in
theorem ck_X7_begins : cd_X7_begins.all (fun q => me_bck mt_nm RX7 cX7_begins 3 (some .long) [125, 126, 163, 171] 0 q.2 q.1) = true := by decide +kernel
set_option maxRecDepth 100000 in
theorem cl_X7_begins {l : Launch} {R : Room} {fr lo mc : Nat} {sp : me_P} (h : me_M l yX7_begins (.code yX7_begins cX7_begins 3 (some .long)) fr lo mc sp) (h1 : fr + 1 ≤ R.frames) (h2 : lo + 22 ≤ R.locals) : me_cal mt_nm l R 172 (mc, sp) := ⟨cX7_begins, 3, (some .long), fr, lo, h, List.mem_of_getElem? (i := 1268) (by rfl), h1, by omega, List.mem_of_getElem? (i := 60) (by rfl), by decide, by decide⟩
def bk_X7_find_0 : List me_I := [(2, 0, 2, [], 1, 0, 0), (2, 1, 0, [], 1, 0, 0), (30, 163, 1, [1244], 3, 0, 1243), (14, 16, 0, [], 3, 0, 0), (2, 0, 2, [], 1, 0, 0), (2, 2, 0, [], 1, 0, 0), (29, 162, 1, [7, 1207, 39], 3, 0, 1205), (14, 20, 1, [], 3, 0, 0)]
def bk_X7_find_16 : List me_I := [(0, 1, 0, [], 1, 0, 0), (16, 37, 0, [], 3, 0, 0)]
def bk_X7_find_20 : List me_I := [(2, 3, 0, [], 1, 0, 0), (7, 0, 0, [], 1, 0, 0), (1, 1, 0, [], 1, 0, 0), (1, 4, 0, [], 3, 0, 1200), (30, 126, 3, [1129], 3, 0, 1128), (14, 36, 0, [], 3, 0, 0), (0, 0, 0, [], 1, 0, 0), (16, 37, 0, [], 3, 0, 0)]
def bk_X7_find_36 : List me_I := [(0, 2, 0, [], 1, 0, 0)]
def bk_X7_find_37 : List me_I := [(29, 125, 1, [7, 1133, 29], 3, 0, 1131), (14, 45, 0, [], 3, 0, 0), (0, 0, 0, [], 1, 0, 0), (32, 0, 0, [], 1, 0, 0)]
def bk_X7_find_45 : List me_I := [(2, 0, 2, [], 1, 0, 0), (2, 1, 0, [], 1, 0, 0), (29, 145, 1, [7, 1248, 41], 3, 0, 1246), (0, 0, 0, [], 1, 0, 0), (3, 4, 0, [], 2, 0, 0)]
def bk_X7_find_53 : List me_I := [(2, 4, 0, [], 2, 0, 0), (2, 0, 2, [], 1, 0, 0), (19, 7, 16, [], 3, 0, 1059), (15, 93, 3, [], 3, 0, 0), (2, 0, 2, [], 1, 0, 0), (19, 7, 13, [], 3, 0, 1056), (2, 4, 0, [], 2, 0, 0), (21, 0, 0, [], 1, 0, 0), (2, 2, 0, [], 1, 0, 0), (15, 87, 1, [], 3, 0, 0), (2, 0, 2, [], 1, 0, 0), (19, 7, 14, [], 3, 0, 1057), (2, 4, 0, [], 2, 0, 0), (21, 0, 0, [], 1, 0, 0), (2, 3, 0, [], 1, 0, 0), (15, 87, 1, [], 3, 0, 0), (2, 4, 0, [], 2, 0, 0), (32, 0, 0, [], 1, 0, 0)]
def bk_X7_find_87 : List me_I := [(13, 4, 1, [], 3, 0, 0), (16, 53, 0, [], 3, 0, 0)]
def bk_X7_find_93 : List me_I := [(0, 9, 1, [], 2, 0, 0), (32, 0, 0, [], 1, 0, 0)]
def cd_X7_find : List (Nat × List me_I) := [(0, bk_X7_find_0), (16, bk_X7_find_16), (20, bk_X7_find_20), (36, bk_X7_find_36), (37, bk_X7_find_37), (45, bk_X7_find_45), (53, bk_X7_find_53), (87, bk_X7_find_87), (93, bk_X7_find_93)]
theorem bq_X7_find_0 : me_bk cd_X7_find 0 = bk_X7_find_0 := rfl
theorem bq_X7_find_16 : me_bk cd_X7_find 16 = bk_X7_find_16 := rfl
theorem bq_X7_find_20 : me_bk cd_X7_find 20 = bk_X7_find_20 := rfl
theorem bq_X7_find_36 : me_bk cd_X7_find 36 = bk_X7_find_36 := rfl
theorem bq_X7_find_37 : me_bk cd_X7_find 37 = bk_X7_find_37 := rfl
theorem bq_X7_find_45 : me_bk cd_X7_find 45 = bk_X7_find_45 := rfl
theorem bq_X7_find_53 : me_bk cd_X7_find 53 = bk_X7_find_53 := rfl
theorem bq_X7_find_87 : me_bk cd_X7_find 87 = bk_X7_find_87 := rfl
theorem bq_X7_find_93 : me_bk cd_X7_find 93 = bk_X7_find_93 := rfl
set_option maxRecDepth 100000 in
theorem ck_X7_find : cd_X7_find.all (fun q => me_bck mt_nm RX7 cX7_find 5 (some .int) [125, 126, 145, 162, 163] 0 q.2 q.1) = true := by decide +kernel
set_option maxRecDepth 100000 in
theorem cl_X7_find {l : Launch} {R : Room} {fr lo mc : Nat} {sp : me_P} (h : me_M l yX7_find (.code yX7_find cX7_find 5 (some .int)) fr lo mc sp) (h1 : fr + 1 ≤ R.frames) (h2 : lo + 24 ≤ R.locals) : me_cal mt_nm l R 173 (mc, sp) := ⟨cX7_find, 5, (some .int), fr, lo, h, List.mem_of_getElem? (i := 1276) (by rfl), h1, by omega, List.mem_of_getElem? (i := 60) (by rfl), by decide, by decide⟩
def bk_X7_at_0 : List me_I := [(2, 0, 2, [], 1, 0, 0), (2, 1, 0, [], 1, 0, 0), (30, 163, 1, [1244], 3, 0, 1243), (14, 12, 1, [], 3, 0, 0), (0, 1, 0, [], 1, 0, 0), (16, 23, 0, [], 3, 0, 0)]
def bk_X7_at_12 : List me_I := [(2, 2, 1, [], 1, 0, 0), (1, 0, 0, [], 1, 0, 0), (9, 0, 0, [], 1, 0, 0), (14, 22, 3, [], 3, 0, 0), (0, 2, 0, [], 1, 0, 0), (16, 23, 0, [], 3, 0, 0)]
def bk_X7_at_22 : List me_I := [(0, 0, 0, [], 1, 0, 0)]
def bk_X7_at_23 : List me_I := [(29, 125, 1, [7, 1133, 29], 3, 0, 1131), (14, 31, 0, [], 3, 0, 0), (0, 0, 0, [], 1, 0, 0), (32, 0, 0, [], 1, 0, 0)]
def bk_X7_at_31 : List me_I := [(2, 0, 2, [], 1, 0, 0), (2, 1, 0, [], 1, 0, 0), (29, 145, 1, [7, 1248, 41], 3, 0, 1246), (2, 2, 1, [], 1, 0, 0), (2, 0, 2, [], 1, 0, 0), (19, 7, 15, [], 3, 0, 1058), (2, 0, 2, [], 1, 0, 0), (19, 7, 16, [], 3, 0, 1059), (23, 0, 0, [], 1, 0, 0), (9, 0, 0, [], 1, 0, 0), (14, 53, 2, [], 3, 0, 0), (0, 9, 1, [], 2, 0, 0), (32, 0, 0, [], 1, 0, 0)]
def bk_X7_at_53 : List me_I := [(0, 0, 0, [], 1, 0, 0), (3, 4, 0, [], 2, 0, 0)]
def bk_X7_at_56 : List me_I := [(2, 0, 2, [], 1, 0, 0), (19, 7, 15, [], 3, 0, 1058), (2, 4, 0, [], 2, 0, 0), (0, 1, 0, [], 1, 0, 0), (4, 0, 0, [], 1, 0, 0), (23, 0, 0, [], 1, 0, 0), (2, 2, 1, [], 1, 0, 0), (9, 0, 0, [], 1, 0, 0), (14, 76, 4, [], 3, 0, 0), (13, 4, 1, [], 3, 0, 0), (16, 56, 0, [], 3, 0, 0)]
def bk_X7_at_76 : List me_I := [(2, 0, 2, [], 1, 0, 0), (19, 7, 15, [], 3, 0, 1058), (2, 4, 0, [], 2, 0, 0), (23, 0, 0, [], 1, 0, 0), (3, 5, 1, [], 2, 0, 0), (0, 0, 0, [], 1, 0, 0), (3, 7, 0, [], 2, 0, 0)]
def bk_X7_at_88 : List me_I := [(2, 5, 1, [], 2, 0, 0), (2, 2, 1, [], 1, 0, 0), (9, 0, 0, [], 1, 0, 0), (14, 144, 4, [], 3, 0, 0), (2, 5, 1, [], 2, 0, 0), (2, 0, 2, [], 1, 0, 0), (19, 7, 7, [], 3, 0, 1050), (2, 0, 2, [], 1, 0, 0), (19, 7, 13, [], 3, 0, 1056), (2, 4, 0, [], 2, 0, 0), (21, 0, 0, [], 1, 0, 0), (0, 100, 0, [], 2, 0, 0), (30, 135, 3, [1217], 3, 0, 1216), (7, 0, 0, [], 1, 0, 0), (2, 0, 2, [], 1, 0, 0), (19, 7, 7, [], 3, 0, 1050), (2, 0, 2, [], 1, 0, 0), (19, 7, 13, [], 3, 0, 1056), (2, 4, 0, [], 2, 0, 0), (21, 0, 0, [], 1, 0, 0), (0, 3, 0, [], 1, 0, 0), (2, 7, 0, [], 2, 0, 0), (4, 0, 0, [], 1, 0, 0), (30, 133, 2, [1168], 3, 0, 1167), (21, 0, 0, [], 1, 0, 0), (7, 0, 0, [], 1, 0, 0), (5, 2, 0, [], 1, 0, 0), (5, 0, 0, [], 1, 0, 0), (3, 5, 1, [], 2, 0, 0), (13, 7, 1, [], 3, 0, 0), (16, 88, 0, [], 3, 0, 0)]
def bk_X7_at_144 : List me_I := [(0, 10, 0, [], 2, 0, 0), (2, 4, 0, [], 2, 0, 0), (4, 2, 0, [], 1, 0, 0), (2, 7, 0, [], 2, 0, 0), (4, 0, 0, [], 1, 0, 0), (32, 0, 0, [], 1, 0, 0)]
def cd_X7_at : List (Nat × List me_I) := [(0, bk_X7_at_0), (12, bk_X7_at_12), (22, bk_X7_at_22), (23, bk_X7_at_23), (31, bk_X7_at_31), (53, bk_X7_at_53), (56, bk_X7_at_56), (76, bk_X7_at_76), (88, bk_X7_at_88), (144, bk_X7_at_144)]
theorem bq_X7_at_0 : me_bk cd_X7_at 0 = bk_X7_at_0 := rfl
theorem bq_X7_at_12 : me_bk cd_X7_at 12 = bk_X7_at_12 := rfl
theorem bq_X7_at_22 : me_bk cd_X7_at 22 = bk_X7_at_22 := rfl
theorem bq_X7_at_23 : me_bk cd_X7_at 23 = bk_X7_at_23 := rfl
theorem bq_X7_at_31 : me_bk cd_X7_at 31 = bk_X7_at_31 := rfl
theorem bq_X7_at_53 : me_bk cd_X7_at 53 = bk_X7_at_53 := rfl
theorem bq_X7_at_56 : me_bk cd_X7_at 56 = bk_X7_at_56 := rfl
theorem bq_X7_at_76 : me_bk cd_X7_at 76 = bk_X7_at_76 := rfl
theorem bq_X7_at_88 : me_bk cd_X7_at 88 = bk_X7_at_88 := rfl
theorem bq_X7_at_144 : me_bk cd_X7_at 144 = bk_X7_at_144 := rfl
set_option maxRecDepth 100000 in
theorem ck_X7_at : cd_X7_at.all (fun q => me_bck mt_nm RX7 cX7_at 8 (some .int) [125, 133, 135, 145, 163] 0 q.2 q.1) = true := by decide +kernel
set_option maxRecDepth 100000 in
theorem cl_X7_at {l : Launch} {R : Room} {fr lo mc : Nat} {sp : me_P} (h : me_M l yX7_at (.code yX7_at cX7_at 8 (some .int)) fr lo mc sp) (h1 : fr + 1 ≤ R.frames) (h2 : lo + 27 ≤ R.locals) : me_cal mt_nm l R 174 (mc, sp) := ⟨cX7_at, 8, (some .int), fr, lo, h, List.mem_of_getElem? (i := 1280) (by rfl), h1, by omega, List.mem_of_getElem? (i := 60) (by rfl), by decide, by decide⟩
def bk_X7_nextClick_0 : List me_I := [(2, 0, 2, [], 1, 0, 0), (2, 1, 0, [], 1, 0, 0), (30, 163, 1, [1244], 3, 0, 1243), (14, 12, 1, [], 3, 0, 0), (0, 1, 0, [], 1, 0, 0), (16, 23, 0, [], 3, 0, 0)]
def bk_X7_nextClick_12 : List me_I := [(2, 2, 1, [], 1, 0, 0), (1, 0, 0, [], 1, 0, 0), (9, 0, 0, [], 1, 0, 0), (14, 22, 3, [], 3, 0, 0), (0, 2, 0, [], 1, 0, 0), (16, 23, 0, [], 3, 0, 0)]
def bk_X7_nextClick_22 : List me_I := [(0, 0, 0, [], 1, 0, 0)]
def bk_X7_nextClick_23 : List me_I := [(29, 125, 1, [7, 1133, 29], 3, 0, 1131), (14, 31, 0, [], 3, 0, 0), (1, 0, 0, [], 1, 0, 0), (33, 0, 0, [], 1, 0, 0)]
def bk_X7_nextClick_31 : List me_I := [(2, 0, 2, [], 1, 0, 0), (2, 1, 0, [], 1, 0, 0), (29, 145, 1, [7, 1248, 41], 3, 0, 1246), (0, 0, 0, [], 1, 0, 0), (3, 4, 0, [], 2, 0, 0)]
def bk_X7_nextClick_39 : List me_I := [(2, 4, 0, [], 2, 0, 0), (2, 0, 2, [], 1, 0, 0), (19, 7, 18, [], 3, 0, 1061), (15, 74, 3, [], 3, 0, 0), (2, 0, 2, [], 1, 0, 0), (19, 7, 17, [], 3, 0, 1060), (2, 4, 0, [], 2, 0, 0), (23, 0, 0, [], 1, 0, 0), (2, 2, 1, [], 1, 0, 0), (9, 0, 0, [], 1, 0, 0), (14, 68, 2, [], 3, 0, 0), (2, 0, 2, [], 1, 0, 0), (19, 7, 17, [], 3, 0, 1060), (2, 4, 0, [], 2, 0, 0), (23, 0, 0, [], 1, 0, 0), (33, 0, 0, [], 1, 0, 0)]
def bk_X7_nextClick_68 : List me_I := [(13, 4, 1, [], 3, 0, 0), (16, 39, 0, [], 3, 0, 0)]
def bk_X7_nextClick_74 : List me_I := [(1, 9, 1, [], 3, 0, 1285), (33, 0, 0, [], 1, 0, 0)]
def cd_X7_nextClick : List (Nat × List me_I) := [(0, bk_X7_nextClick_0), (12, bk_X7_nextClick_12), (22, bk_X7_nextClick_22), (23, bk_X7_nextClick_23), (31, bk_X7_nextClick_31), (39, bk_X7_nextClick_39), (68, bk_X7_nextClick_68), (74, bk_X7_nextClick_74)]
theorem bq_X7_nextClick_0 : me_bk cd_X7_nextClick 0 = bk_X7_nextClick_0 := rfl
theorem bq_X7_nextClick_12 : me_bk cd_X7_nextClick 12 = bk_X7_nextClick_12 := rfl
theorem bq_X7_nextClick_22 : me_bk cd_X7_nextClick 22 = bk_X7_nextClick_22 := rfl
theorem bq_X7_nextClick_23 : me_bk cd_X7_nextClick 23 = bk_X7_nextClick_23 := rfl
theorem bq_X7_nextClick_31 : me_bk cd_X7_nextClick 31 = bk_X7_nextClick_31 := rfl
theorem bq_X7_nextClick_39 : me_bk cd_X7_nextClick 39 = bk_X7_nextClick_39 := rfl
theorem bq_X7_nextClick_68 : me_bk cd_X7_nextClick 68 = bk_X7_nextClick_68 := rfl
theorem bq_X7_nextClick_74 : me_bk cd_X7_nextClick 74 = bk_X7_nextClick_74 := rfl
set_option maxRecDepth 100000 in
theorem ck_X7_nextClick : cd_X7_nextClick.all (fun q => me_bck mt_nm RX7 cX7_nextClick 5 (some .long) [125, 145, 163] 0 q.2 q.1) = true := by decide +kernel
set_option maxRecDepth 100000 in
theorem cl_X7_nextClick {l : Launch} {R : Room} {fr lo mc : Nat} {sp : me_P} (h : me_M l yX7_nextClick (.code yX7_nextClick cX7_nextClick 5 (some .long)) fr lo mc sp) (h1 : fr + 1 ≤ R.frames) (h2 : lo + 24 ≤ R.locals) : me_cal mt_nm l R 175 (mc, sp) := ⟨cX7_nextClick, 5, (some .long), fr, lo, h, List.mem_of_getElem? (i := 1284) (by rfl), h1, by omega, List.mem_of_getElem? (i := 60) (by rfl), by decide, by decide⟩
def bk_X7_clicks_0 : List me_I := [(2, 0, 2, [], 1, 0, 0), (2, 1, 0, [], 1, 0, 0), (30, 163, 1, [1244], 3, 0, 1243), (14, 12, 1, [], 3, 0, 0), (0, 1, 0, [], 1, 0, 0), (16, 30, 0, [], 3, 0, 0)]
def bk_X7_clicks_12 : List me_I := [(2, 2, 1, [], 1, 0, 0), (1, 0, 0, [], 1, 0, 0), (9, 0, 0, [], 1, 0, 0), (14, 25, 2, [], 3, 0, 0), (2, 4, 1, [], 2, 0, 0), (2, 2, 1, [], 1, 0, 0), (9, 0, 0, [], 1, 0, 0), (14, 29, 3, [], 3, 0, 0)]
def bk_X7_clicks_25 : List me_I := [(0, 2, 0, [], 1, 0, 0), (16, 30, 0, [], 3, 0, 0)]
def bk_X7_clicks_29 : List me_I := [(0, 0, 0, [], 1, 0, 0)]
def bk_X7_clicks_30 : List me_I := [(29, 125, 1, [7, 1133, 29], 3, 0, 1131), (14, 38, 0, [], 3, 0, 0), (0, 0, 0, [], 1, 0, 0), (32, 0, 0, [], 1, 0, 0)]
def bk_X7_clicks_38 : List me_I := [(2, 0, 2, [], 1, 0, 0), (2, 1, 0, [], 1, 0, 0), (29, 145, 1, [7, 1248, 41], 3, 0, 1246), (0, 0, 0, [], 1, 0, 0), (3, 6, 0, [], 2, 0, 0), (0, 0, 0, [], 1, 0, 0), (3, 7, 0, [], 2, 0, 0)]
def bk_X7_clicks_49 : List me_I := [(2, 7, 0, [], 2, 0, 0), (2, 0, 2, [], 1, 0, 0), (19, 7, 18, [], 3, 0, 1061), (15, 99, 3, [], 3, 0, 0), (2, 6, 0, [], 2, 0, 0), (2, 0, 2, [], 1, 0, 0), (19, 7, 17, [], 3, 0, 1060), (2, 7, 0, [], 2, 0, 0), (23, 0, 0, [], 1, 0, 0), (2, 2, 1, [], 1, 0, 0), (9, 0, 0, [], 1, 0, 0), (14, 89, 2, [], 3, 0, 0), (2, 0, 2, [], 1, 0, 0), (19, 7, 17, [], 3, 0, 1060), (2, 7, 0, [], 2, 0, 0), (23, 0, 0, [], 1, 0, 0), (2, 4, 1, [], 2, 0, 0), (9, 0, 0, [], 1, 0, 0), (14, 89, 3, [], 3, 0, 0), (0, 1, 0, [], 1, 0, 0), (16, 90, 0, [], 3, 0, 0)]
def bk_X7_clicks_89 : List me_I := [(0, 0, 0, [], 1, 0, 0)]
def bk_X7_clicks_90 : List me_I := [(4, 0, 0, [], 1, 0, 0), (3, 6, 0, [], 2, 0, 0), (13, 7, 1, [], 3, 0, 0), (16, 49, 0, [], 3, 0, 0)]
def bk_X7_clicks_99 : List me_I := [(2, 6, 0, [], 2, 0, 0), (32, 0, 0, [], 1, 0, 0)]
def cd_X7_clicks : List (Nat × List me_I) := [(0, bk_X7_clicks_0), (12, bk_X7_clicks_12), (25, bk_X7_clicks_25), (29, bk_X7_clicks_29), (30, bk_X7_clicks_30), (38, bk_X7_clicks_38), (49, bk_X7_clicks_49), (89, bk_X7_clicks_89), (90, bk_X7_clicks_90), (99, bk_X7_clicks_99)]
theorem bq_X7_clicks_0 : me_bk cd_X7_clicks 0 = bk_X7_clicks_0 := rfl
theorem bq_X7_clicks_12 : me_bk cd_X7_clicks 12 = bk_X7_clicks_12 := rfl
theorem bq_X7_clicks_25 : me_bk cd_X7_clicks 25 = bk_X7_clicks_25 := rfl
theorem bq_X7_clicks_29 : me_bk cd_X7_clicks 29 = bk_X7_clicks_29 := rfl
theorem bq_X7_clicks_30 : me_bk cd_X7_clicks 30 = bk_X7_clicks_30 := rfl
theorem bq_X7_clicks_38 : me_bk cd_X7_clicks 38 = bk_X7_clicks_38 := rfl
theorem bq_X7_clicks_49 : me_bk cd_X7_clicks 49 = bk_X7_clicks_49 := rfl
theorem bq_X7_clicks_89 : me_bk cd_X7_clicks 89 = bk_X7_clicks_89 := rfl
theorem bq_X7_clicks_90 : me_bk cd_X7_clicks 90 = bk_X7_clicks_90 := rfl
theorem bq_X7_clicks_99 : me_bk cd_X7_clicks 99 = bk_X7_clicks_99 := rfl
set_option maxRecDepth 100000 in
theorem ck_X7_clicks : cd_X7_clicks.all (fun q => me_bck mt_nm RX7 cX7_clicks 8 (some .int) [125, 145, 163] 0 q.2 q.1) = true := by decide +kernel
set_option maxRecDepth 100000 in
theorem cl_X7_clicks {l : Launch} {R : Room} {fr lo mc : Nat} {sp : me_P} (h : me_M l yX7_clicks (.code yX7_clicks cX7_clicks 8 (some .int)) fr lo mc sp) (h1 : fr + 1 ≤ R.frames) (h2 : lo + 27 ≤ R.locals) : me_cal mt_nm l R 176 (mc, sp) := ⟨cX7_clicks, 8, (some .int), fr, lo, h, List.mem_of_getElem? (i := 1289) (by rfl), h1, by omega, List.mem_of_getElem? (i := 60) (by rfl), by decide, by decide⟩
def bk_X7_missed_0 : List me_I := [(2, 0, 2, [], 1, 0, 0), (2, 1, 0, [], 1, 0, 0), (30, 163, 1, [1244], 3, 0, 1243), (14, 12, 0, [], 3, 0, 0), (0, 0, 0, [], 1, 0, 0), (16, 13, 0, [], 3, 0, 0)]
def bk_X7_missed_12 : List me_I := [(0, 1, 0, [], 1, 0, 0)]
def bk_X7_missed_13 : List me_I := [(29, 125, 1, [7, 1133, 29], 3, 0, 1131), (14, 21, 0, [], 3, 0, 0), (0, 0, 0, [], 1, 0, 0), (32, 0, 0, [], 1, 0, 0)]
def bk_X7_missed_21 : List me_I := [(0, 0, 0, [], 1, 0, 0), (3, 2, 0, [], 1, 0, 0), (0, 0, 0, [], 1, 0, 0), (3, 3, 0, [], 1, 0, 0)]
def bk_X7_missed_25 : List me_I := [(2, 3, 0, [], 1, 0, 0), (2, 0, 2, [], 1, 0, 0), (19, 7, 7, [], 3, 0, 1050), (0, 0, 0, [], 1, 0, 0), (21, 0, 0, [], 1, 0, 0), (15, 52, 3, [], 3, 0, 0), (2, 2, 0, [], 1, 0, 0), (2, 0, 2, [], 1, 0, 0), (19, 7, 7, [], 3, 0, 1050), (2, 3, 0, [], 1, 0, 0), (30, 138, 2, [1295], 3, 0, 1294), (4, 0, 0, [], 1, 0, 0), (3, 2, 0, [], 1, 0, 0), (13, 3, 1, [], 3, 0, 0), (16, 25, 0, [], 3, 0, 0)]
def bk_X7_missed_52 : List me_I := [(2, 2, 0, [], 1, 0, 0), (2, 0, 2, [], 1, 0, 0), (2, 1, 0, [], 1, 0, 0), (29, 171, 1, [7, 1271, 44], 3, 0, 1269), (4, 1, 0, [], 1, 0, 0), (32, 0, 0, [], 1, 0, 0)]
def cd_X7_missed : List (Nat × List me_I) := [(0, bk_X7_missed_0), (12, bk_X7_missed_12), (13, bk_X7_missed_13), (21, bk_X7_missed_21), (25, bk_X7_missed_25), (52, bk_X7_missed_52)]
theorem bq_X7_missed_0 : me_bk cd_X7_missed 0 = bk_X7_missed_0 := rfl
theorem bq_X7_missed_12 : me_bk cd_X7_missed 12 = bk_X7_missed_12 := rfl
theorem bq_X7_missed_13 : me_bk cd_X7_missed 13 = bk_X7_missed_13 := rfl
theorem bq_X7_missed_21 : me_bk cd_X7_missed 21 = bk_X7_missed_21 := rfl
theorem bq_X7_missed_25 : me_bk cd_X7_missed 25 = bk_X7_missed_25 := rfl
theorem bq_X7_missed_52 : me_bk cd_X7_missed 52 = bk_X7_missed_52 := rfl
set_option maxRecDepth 100000 in
theorem ck_X7_missed : cd_X7_missed.all (fun q => me_bck mt_nm RX7 cX7_missed 4 (some .int) [125, 138, 163, 171] 0 q.2 q.1) = true := by decide +kernel
set_option maxRecDepth 100000 in
theorem cl_X7_missed {l : Launch} {R : Room} {fr lo mc : Nat} {sp : me_P} (h : me_M l yX7_missed (.code yX7_missed cX7_missed 4 (some .int)) fr lo mc sp) (h1 : fr + 1 ≤ R.frames) (h2 : lo + 23 ≤ R.locals) : me_cal mt_nm l R 177 (mc, sp) := ⟨cX7_missed, 4, (some .int), fr, lo, h, List.mem_of_getElem? (i := 1293) (by rfl), h1, by omega, List.mem_of_getElem? (i := 60) (by rfl), by decide, by decide⟩
def bk_X7_together_0 : List me_I := [(2, 0, 2, [], 1, 0, 0), (2, 1, 0, [], 1, 0, 0), (30, 163, 1, [1244], 3, 0, 1243), (14, 19, 0, [], 3, 0, 0), (2, 2, 0, [], 1, 0, 0), (30, 163, 1, [1244], 3, 0, 1243), (14, 19, 0, [], 3, 0, 0), (0, 0, 0, [], 1, 0, 0), (16, 20, 0, [], 3, 0, 0)]
def bk_X7_together_19 : List me_I := [(0, 1, 0, [], 1, 0, 0)]
def bk_X7_together_20 : List me_I := [(29, 125, 1, [7, 1133, 29], 3, 0, 1131), (14, 28, 0, [], 3, 0, 0), (0, 0, 0, [], 1, 0, 0), (32, 0, 0, [], 1, 0, 0)]
def bk_X7_together_28 : List me_I := [(2, 0, 2, [], 1, 0, 0), (2, 0, 2, [], 1, 0, 0), (19, 7, 7, [], 3, 0, 1050), (2, 1, 0, [], 1, 0, 0), (2, 2, 0, [], 1, 0, 0), (29, 146, 3, [7, 1303, 45], 3, 0, 1301), (0, 0, 0, [], 1, 0, 0), (3, 3, 0, [], 1, 0, 0), (0, 0, 0, [], 1, 0, 0), (3, 4, 0, [], 2, 0, 0), (0, 0, 0, [], 1, 0, 0), (3, 5, 0, [], 2, 0, 0)]
def bk_X7_together_46 : List me_I := [(2, 5, 0, [], 2, 0, 0), (2, 0, 2, [], 1, 0, 0), (19, 7, 18, [], 3, 0, 1061), (15, 129, 3, [], 3, 0, 0)]
def bk_X7_together_55 : List me_I := [(2, 4, 0, [], 2, 0, 0), (2, 0, 2, [], 1, 0, 0), (19, 7, 24, [], 3, 0, 1067), (15, 88, 3, [], 3, 0, 0), (2, 0, 2, [], 1, 0, 0), (19, 7, 23, [], 3, 0, 1066), (2, 4, 0, [], 2, 0, 0), (23, 0, 0, [], 1, 0, 0), (2, 0, 2, [], 1, 0, 0), (19, 7, 17, [], 3, 0, 1060), (2, 5, 0, [], 2, 0, 0), (23, 0, 0, [], 1, 0, 0), (9, 0, 0, [], 1, 0, 0), (14, 88, 3, [], 3, 0, 0), (13, 4, 1, [], 3, 0, 0), (16, 55, 0, [], 3, 0, 0)]
def bk_X7_together_88 : List me_I := [(2, 3, 0, [], 1, 0, 0), (2, 4, 0, [], 2, 0, 0), (2, 0, 2, [], 1, 0, 0), (19, 7, 24, [], 3, 0, 1067), (15, 120, 3, [], 3, 0, 0), (2, 0, 2, [], 1, 0, 0), (19, 7, 23, [], 3, 0, 1066), (2, 4, 0, [], 2, 0, 0), (23, 0, 0, [], 1, 0, 0), (2, 0, 2, [], 1, 0, 0), (19, 7, 17, [], 3, 0, 1060), (2, 5, 0, [], 2, 0, 0), (23, 0, 0, [], 1, 0, 0), (9, 0, 0, [], 1, 0, 0), (14, 120, 1, [], 3, 0, 0), (0, 1, 0, [], 1, 0, 0), (16, 121, 0, [], 3, 0, 0)]
def bk_X7_together_120 : List me_I := [(0, 0, 0, [], 1, 0, 0)]
def bk_X7_together_121 : List me_I := [(4, 0, 0, [], 1, 0, 0), (3, 3, 0, [], 1, 0, 0), (13, 5, 1, [], 3, 0, 0), (16, 46, 0, [], 3, 0, 0)]
def bk_X7_together_129 : List me_I := [(2, 3, 0, [], 1, 0, 0), (32, 0, 0, [], 1, 0, 0)]
def cd_X7_together : List (Nat × List me_I) := [(0, bk_X7_together_0), (19, bk_X7_together_19), (20, bk_X7_together_20), (28, bk_X7_together_28), (46, bk_X7_together_46), (55, bk_X7_together_55), (88, bk_X7_together_88), (120, bk_X7_together_120), (121, bk_X7_together_121), (129, bk_X7_together_129)]
theorem bq_X7_together_0 : me_bk cd_X7_together 0 = bk_X7_together_0 := rfl
theorem bq_X7_together_19 : me_bk cd_X7_together 19 = bk_X7_together_19 := rfl
theorem bq_X7_together_20 : me_bk cd_X7_together 20 = bk_X7_together_20 := rfl
theorem bq_X7_together_28 : me_bk cd_X7_together 28 = bk_X7_together_28 := rfl
theorem bq_X7_together_46 : me_bk cd_X7_together 46 = bk_X7_together_46 := rfl
theorem bq_X7_together_55 : me_bk cd_X7_together 55 = bk_X7_together_55 := rfl
theorem bq_X7_together_88 : me_bk cd_X7_together 88 = bk_X7_together_88 := rfl
theorem bq_X7_together_120 : me_bk cd_X7_together 120 = bk_X7_together_120 := rfl
theorem bq_X7_together_121 : me_bk cd_X7_together 121 = bk_X7_together_121 := rfl
theorem bq_X7_together_129 : me_bk cd_X7_together 129 = bk_X7_together_129 := rfl
set_option maxRecDepth 100000 in
theorem ck_X7_together : cd_X7_together.all (fun q => me_bck mt_nm RX7 cX7_together 6 (some .int) [125, 146, 163] 0 q.2 q.1) = true := by decide +kernel
set_option maxRecDepth 100000 in
theorem cl_X7_together {l : Launch} {R : Room} {fr lo mc : Nat} {sp : me_P} (h : me_M l yX7_together (.code yX7_together cX7_together 6 (some .int)) fr lo mc sp) (h1 : fr + 1 ≤ R.frames) (h2 : lo + 25 ≤ R.locals) : me_cal mt_nm l R 178 (mc, sp) := ⟨cX7_together, 6, (some .int), fr, lo, h, List.mem_of_getElem? (i := 1300) (by rfl), h1, by omega, List.mem_of_getElem? (i := 60) (by rfl), by decide, by decide⟩
def bk_X7_part_0 : List me_I := [(2, 0, 2, [], 1, 0, 0), (2, 1, 0, [], 1, 0, 0), (30, 163, 1, [1244], 3, 0, 1243), (14, 19, 0, [], 3, 0, 0), (2, 2, 0, [], 1, 0, 0), (30, 163, 1, [1244], 3, 0, 1243), (14, 19, 0, [], 3, 0, 0), (0, 0, 0, [], 1, 0, 0), (16, 20, 0, [], 3, 0, 0)]
def bk_X7_part_19 : List me_I := [(0, 1, 0, [], 1, 0, 0)]
def bk_X7_part_20 : List me_I := [(29, 125, 1, [7, 1133, 29], 3, 0, 1131), (14, 30, 0, [], 3, 0, 0), (0, 0, 0, [], 1, 0, 0), (16, 40, 0, [], 3, 0, 0)]
def bk_X7_part_30 : List me_I := [(2, 0, 2, [], 1, 0, 0), (2, 0, 2, [], 1, 0, 0), (19, 7, 7, [], 3, 0, 1050), (2, 1, 0, [], 1, 0, 0), (2, 2, 0, [], 1, 0, 0), (29, 147, 3, [7, 1311, 46], 3, 0, 1309)]
def bk_X7_part_40 : List me_I := [(32, 0, 0, [], 1, 0, 0)]
def cd_X7_part : List (Nat × List me_I) := [(0, bk_X7_part_0), (19, bk_X7_part_19), (20, bk_X7_part_20), (30, bk_X7_part_30), (40, bk_X7_part_40)]
theorem bq_X7_part_0 : me_bk cd_X7_part 0 = bk_X7_part_0 := rfl
theorem bq_X7_part_19 : me_bk cd_X7_part 19 = bk_X7_part_19 := rfl
theorem bq_X7_part_20 : me_bk cd_X7_part 20 = bk_X7_part_20 := rfl
theorem bq_X7_part_30 : me_bk cd_X7_part 30 = bk_X7_part_30 := rfl
theorem bq_X7_part_40 : me_bk cd_X7_part 40 = bk_X7_part_40 := rfl
set_option maxRecDepth 100000 in
theorem ck_X7_part : cd_X7_part.all (fun q => me_bck mt_nm RX7 cX7_part 3 (some .int) [125, 147, 163] 0 q.2 q.1) = true := by decide +kernel
set_option maxRecDepth 100000 in
theorem cl_X7_part {l : Launch} {R : Room} {fr lo mc : Nat} {sp : me_P} (h : me_M l yX7_part (.code yX7_part cX7_part 3 (some .int)) fr lo mc sp) (h1 : fr + 1 ≤ R.frames) (h2 : lo + 22 ≤ R.locals) : me_cal mt_nm l R 179 (mc, sp) := ⟨cX7_part, 3, (some .int), fr, lo, h, List.mem_of_getElem? (i := 1308) (by rfl), h1, by omega, List.mem_of_getElem? (i := 60) (by rfl), by decide, by decide⟩
def bk_X7_meet_0 : List me_I := [(2, 0, 2, [], 1, 0, 0), (2, 1, 0, [], 1, 0, 0), (30, 163, 1, [1244], 3, 0, 1243), (14, 19, 0, [], 3, 0, 0), (2, 2, 0, [], 1, 0, 0), (30, 163, 1, [1244], 3, 0, 1243), (14, 19, 0, [], 3, 0, 0), (0, 0, 0, [], 1, 0, 0), (16, 20, 0, [], 3, 0, 0)]
def bk_X7_meet_19 : List me_I := [(0, 1, 0, [], 1, 0, 0)]
def bk_X7_meet_20 : List me_I := [(29, 125, 1, [7, 1133, 29], 3, 0, 1131), (14, 28, 0, [], 3, 0, 0), (1, 0, 0, [], 1, 0, 0), (33, 0, 0, [], 1, 0, 0)]
def bk_X7_meet_28 : List me_I := [(2, 0, 2, [], 1, 0, 0), (2, 0, 2, [], 1, 0, 0), (19, 7, 7, [], 3, 0, 1050), (2, 1, 0, [], 1, 0, 0), (2, 2, 0, [], 1, 0, 0), (29, 146, 3, [7, 1303, 45], 3, 0, 1301), (0, 0, 0, [], 1, 0, 0), (3, 3, 0, [], 1, 0, 0)]
def bk_X7_meet_40 : List me_I := [(2, 3, 0, [], 1, 0, 0), (2, 0, 2, [], 1, 0, 0), (19, 7, 16, [], 3, 0, 1059), (15, 134, 3, [], 3, 0, 0), (0, 0, 0, [], 1, 0, 0), (3, 4, 0, [], 2, 0, 0)]
def bk_X7_meet_51 : List me_I := [(2, 4, 0, [], 2, 0, 0), (2, 0, 2, [], 1, 0, 0), (19, 7, 22, [], 3, 0, 1065), (15, 128, 3, [], 3, 0, 0), (2, 3, 0, [], 1, 0, 0), (2, 4, 0, [], 2, 0, 0), (15, 122, 0, [], 3, 0, 0), (2, 0, 2, [], 1, 0, 0), (19, 7, 13, [], 3, 0, 1056), (2, 3, 0, [], 1, 0, 0), (21, 0, 0, [], 1, 0, 0), (2, 0, 2, [], 1, 0, 0), (19, 7, 19, [], 3, 0, 1062), (2, 4, 0, [], 2, 0, 0), (21, 0, 0, [], 1, 0, 0), (15, 122, 1, [], 3, 0, 0), (2, 0, 2, [], 1, 0, 0), (19, 7, 14, [], 3, 0, 1057), (2, 3, 0, [], 1, 0, 0), (21, 0, 0, [], 1, 0, 0), (2, 0, 2, [], 1, 0, 0), (19, 7, 20, [], 3, 0, 1063), (2, 4, 0, [], 2, 0, 0), (21, 0, 0, [], 1, 0, 0), (15, 122, 1, [], 3, 0, 0), (2, 0, 2, [], 1, 0, 0), (19, 7, 15, [], 3, 0, 1058), (2, 3, 0, [], 1, 0, 0), (23, 0, 0, [], 1, 0, 0), (2, 0, 2, [], 1, 0, 0), (19, 7, 21, [], 3, 0, 1064), (2, 4, 0, [], 2, 0, 0), (23, 0, 0, [], 1, 0, 0), (9, 0, 0, [], 1, 0, 0), (14, 122, 1, [], 3, 0, 0), (2, 0, 2, [], 1, 0, 0), (19, 7, 15, [], 3, 0, 1058), (2, 3, 0, [], 1, 0, 0), (23, 0, 0, [], 1, 0, 0), (33, 0, 0, [], 1, 0, 0)]
def bk_X7_meet_122 : List me_I := [(13, 4, 1, [], 3, 0, 0), (16, 51, 0, [], 3, 0, 0)]
def bk_X7_meet_128 : List me_I := [(13, 3, 1, [], 3, 0, 0), (16, 40, 0, [], 3, 0, 0)]
def bk_X7_meet_134 : List me_I := [(1, 9, 1, [], 3, 0, 1285), (33, 0, 0, [], 1, 0, 0)]
def cd_X7_meet : List (Nat × List me_I) := [(0, bk_X7_meet_0), (19, bk_X7_meet_19), (20, bk_X7_meet_20), (28, bk_X7_meet_28), (40, bk_X7_meet_40), (51, bk_X7_meet_51), (122, bk_X7_meet_122), (128, bk_X7_meet_128), (134, bk_X7_meet_134)]
theorem bq_X7_meet_0 : me_bk cd_X7_meet 0 = bk_X7_meet_0 := rfl
theorem bq_X7_meet_19 : me_bk cd_X7_meet 19 = bk_X7_meet_19 := rfl
theorem bq_X7_meet_20 : me_bk cd_X7_meet 20 = bk_X7_meet_20 := rfl
theorem bq_X7_meet_28 : me_bk cd_X7_meet 28 = bk_X7_meet_28 := rfl
theorem bq_X7_meet_40 : me_bk cd_X7_meet 40 = bk_X7_meet_40 := rfl
theorem bq_X7_meet_51 : me_bk cd_X7_meet 51 = bk_X7_meet_51 := rfl
theorem bq_X7_meet_122 : me_bk cd_X7_meet 122 = bk_X7_meet_122 := rfl
theorem bq_X7_meet_128 : me_bk cd_X7_meet 128 = bk_X7_meet_128 := rfl
theorem bq_X7_meet_134 : me_bk cd_X7_meet 134 = bk_X7_meet_134 := rfl
set_option maxRecDepth 100000 in
theorem ck_X7_meet : cd_X7_meet.all (fun q => me_bck mt_nm RX7 cX7_meet 5 (some .long) [125, 146, 163] 0 q.2 q.1) = true := by decide +kernel
set_option maxRecDepth 100000 in
theorem cl_X7_meet {l : Launch} {R : Room} {fr lo mc : Nat} {sp : me_P} (h : me_M l yX7_meet (.code yX7_meet cX7_meet 5 (some .long)) fr lo mc sp) (h1 : fr + 1 ≤ R.frames) (h2 : lo + 24 ≤ R.locals) : me_cal mt_nm l R 180 (mc, sp) := ⟨cX7_meet, 5, (some .long), fr, lo, h, List.mem_of_getElem? (i := 1316) (by rfl), h1, by omega, List.mem_of_getElem? (i := 60) (by rfl), by decide, by decide⟩
def bk_X7_addBar_0 : List me_I := [(2, 0, 2, [], 1, 0, 0), (2, 1, 0, [], 1, 0, 0), (7, 0, 0, [], 1, 0, 0), (1, 1, 0, [], 1, 0, 0), (1, 9, 0, [], 3, 0, 1163), (30, 126, 3, [1129], 3, 0, 1128), (14, 17, 1, [], 3, 0, 0), (0, 1, 0, [], 1, 0, 0), (16, 33, 0, [], 3, 0, 0)]
def bk_X7_addBar_17 : List me_I := [(2, 0, 2, [], 1, 0, 0), (19, 7, 7, [], 3, 0, 1050), (0, 0, 0, [], 1, 0, 0), (21, 0, 0, [], 1, 0, 0), (0, 24, 0, [], 2, 0, 0), (15, 32, 1, [], 3, 0, 0), (0, 2, 0, [], 1, 0, 0), (16, 33, 0, [], 3, 0, 0)]
def bk_X7_addBar_32 : List me_I := [(0, 0, 0, [], 1, 0, 0)]
def bk_X7_addBar_33 : List me_I := [(29, 125, 1, [7, 1133, 29], 3, 0, 1131), (14, 41, 0, [], 3, 0, 0), (0, 0, 0, [], 1, 0, 0), (32, 0, 0, [], 1, 0, 0)]
def bk_X7_addBar_41 : List me_I := [(2, 0, 2, [], 1, 0, 0), (29, 131, 0, [7, 1323, 47], 3, 0, 1321), (2, 0, 2, [], 1, 0, 0), (19, 7, 7, [], 3, 0, 1050), (2, 1, 0, [], 1, 0, 0), (30, 139, 2, [1165], 3, 0, 1164), (2, 0, 2, [], 1, 0, 0), (19, 7, 7, [], 3, 0, 1050), (0, 0, 0, [], 1, 0, 0), (21, 0, 0, [], 1, 0, 0), (0, 1, 0, [], 1, 0, 0), (4, 1, 0, [], 1, 0, 0), (32, 0, 0, [], 1, 0, 0)]
def cd_X7_addBar : List (Nat × List me_I) := [(0, bk_X7_addBar_0), (17, bk_X7_addBar_17), (32, bk_X7_addBar_32), (33, bk_X7_addBar_33), (41, bk_X7_addBar_41)]
theorem bq_X7_addBar_0 : me_bk cd_X7_addBar 0 = bk_X7_addBar_0 := rfl
theorem bq_X7_addBar_17 : me_bk cd_X7_addBar 17 = bk_X7_addBar_17 := rfl
theorem bq_X7_addBar_32 : me_bk cd_X7_addBar 32 = bk_X7_addBar_32 := rfl
theorem bq_X7_addBar_33 : me_bk cd_X7_addBar 33 = bk_X7_addBar_33 := rfl
theorem bq_X7_addBar_41 : me_bk cd_X7_addBar 41 = bk_X7_addBar_41 := rfl
set_option maxRecDepth 100000 in
theorem ck_X7_addBar : cd_X7_addBar.all (fun q => me_bck mt_nm RX7 cX7_addBar 2 (some .int) [125, 126, 131, 139] 0 q.2 q.1) = true := by decide +kernel
set_option maxRecDepth 100000 in
theorem cl_X7_addBar {l : Launch} {R : Room} {fr lo mc : Nat} {sp : me_P} (h : me_M l yX7_addBar (.code yX7_addBar cX7_addBar 2 (some .int)) fr lo mc sp) (h1 : fr + 1 ≤ R.frames) (h2 : lo + 21 ≤ R.locals) : me_cal mt_nm l R 181 (mc, sp) := ⟨cX7_addBar, 2, (some .int), fr, lo, h, List.mem_of_getElem? (i := 1320) (by rfl), h1, by omega, List.mem_of_getElem? (i := 60) (by rfl), by decide, by decide⟩
def bk_X7_isTempo_0 : List me_I := [(2, 0, 0, [], 1, 0, 0), (14, 18, 0, [], 3, 0, 0), (2, 0, 0, [], 1, 0, 0), (7, 0, 0, [], 1, 0, 0), (1, 30, 0, [], 3, 0, 1332), (1, 240, 0, [], 3, 0, 1333), (30, 126, 3, [1129], 3, 0, 1128), (14, 22, 0, [], 3, 0, 0)]
def bk_X7_isTempo_18 : List me_I := [(0, 1, 0, [], 1, 0, 0), (16, 23, 0, [], 3, 0, 0)]
def bk_X7_isTempo_22 : List me_I := [(0, 0, 0, [], 1, 0, 0)]
def bk_X7_isTempo_23 : List me_I := [(34, 0, 0, [], 1, 0, 0)]
def cd_X7_isTempo : List (Nat × List me_I) := [(0, bk_X7_isTempo_0), (18, bk_X7_isTempo_18), (22, bk_X7_isTempo_22), (23, bk_X7_isTempo_23)]
theorem bq_X7_isTempo_0 : me_bk cd_X7_isTempo 0 = bk_X7_isTempo_0 := rfl
theorem bq_X7_isTempo_18 : me_bk cd_X7_isTempo 18 = bk_X7_isTempo_18 := rfl
theorem bq_X7_isTempo_22 : me_bk cd_X7_isTempo 22 = bk_X7_isTempo_22 := rfl
theorem bq_X7_isTempo_23 : me_bk cd_X7_isTempo 23 = bk_X7_isTempo_23 := rfl
set_option maxRecDepth 100000 in
theorem ck_X7_isTempo : cd_X7_isTempo.all (fun q => me_bck mt_nm RX7 cX7_isTempo 1 (some .boolean) [126] 0 q.2 q.1) = true := by decide +kernel
set_option maxRecDepth 100000 in
theorem cl_X7_isTempo {l : Launch} {R : Room} {fr lo mc : Nat} {sp : me_P} (h : me_M l yX7_isTempo (.code yX7_isTempo cX7_isTempo 1 (some .boolean)) fr lo mc sp) (h1 : fr + 1 ≤ R.frames) (h2 : lo + 20 ≤ R.locals) : me_cal mt_nm l R 182 (mc, sp) := ⟨cX7_isTempo, 1, (some .boolean), fr, lo, h, List.mem_of_getElem? (i := 1331) (by rfl), h1, by omega, List.mem_of_getElem? (i := 60) (by rfl), by decide, by decide⟩
def bk_X7_setTempo_0 : List me_I := [(2, 0, 2, [], 1, 0, 0), (2, 0, 2, [], 1, 0, 0), (2, 1, 0, [], 1, 0, 0), (29, 162, 1, [7, 1207, 39], 3, 0, 1205), (14, 13, 1, [], 3, 0, 0), (0, 1, 0, [], 1, 0, 0), (16, 25, 0, [], 3, 0, 0)]
def bk_X7_setTempo_13 : List me_I := [(2, 2, 0, [], 1, 0, 0), (30, 182, 1, [1330], 3, 0, 1329), (14, 24, 0, [], 3, 0, 0), (0, 0, 0, [], 1, 0, 0), (16, 25, 0, [], 3, 0, 0)]
def bk_X7_setTempo_24 : List me_I := [(0, 2, 0, [], 1, 0, 0)]
def bk_X7_setTempo_25 : List me_I := [(29, 125, 1, [7, 1133, 29], 3, 0, 1131), (14, 33, 0, [], 3, 0, 0), (0, 0, 0, [], 1, 0, 0), (32, 0, 0, [], 1, 0, 0)]
def bk_X7_setTempo_33 : List me_I := [(2, 0, 2, [], 1, 0, 0), (29, 131, 0, [7, 1323, 47], 3, 0, 1321), (2, 0, 2, [], 1, 0, 0), (19, 7, 7, [], 3, 0, 1050), (2, 1, 0, [], 1, 0, 0), (30, 134, 2, [1211], 3, 0, 1210), (3, 3, 0, [], 1, 0, 0), (2, 0, 2, [], 1, 0, 0), (19, 7, 7, [], 3, 0, 1050), (2, 1, 0, [], 1, 0, 0), (0, 1, 0, [], 1, 0, 0), (30, 133, 2, [1168], 3, 0, 1167), (2, 2, 0, [], 1, 0, 0), (22, 0, 0, [], 1, 0, 0), (2, 3, 0, [], 1, 0, 0), (32, 0, 0, [], 1, 0, 0)]
def cd_X7_setTempo : List (Nat × List me_I) := [(0, bk_X7_setTempo_0), (13, bk_X7_setTempo_13), (24, bk_X7_setTempo_24), (25, bk_X7_setTempo_25), (33, bk_X7_setTempo_33)]
theorem bq_X7_setTempo_0 : me_bk cd_X7_setTempo 0 = bk_X7_setTempo_0 := rfl
theorem bq_X7_setTempo_13 : me_bk cd_X7_setTempo 13 = bk_X7_setTempo_13 := rfl
theorem bq_X7_setTempo_24 : me_bk cd_X7_setTempo 24 = bk_X7_setTempo_24 := rfl
theorem bq_X7_setTempo_25 : me_bk cd_X7_setTempo 25 = bk_X7_setTempo_25 := rfl
theorem bq_X7_setTempo_33 : me_bk cd_X7_setTempo 33 = bk_X7_setTempo_33 := rfl
set_option maxRecDepth 100000 in
theorem ck_X7_setTempo : cd_X7_setTempo.all (fun q => me_bck mt_nm RX7 cX7_setTempo 4 (some .int) [125, 131, 133, 134, 162, 182] 0 q.2 q.1) = true := by decide +kernel
set_option maxRecDepth 100000 in
theorem cl_X7_setTempo {l : Launch} {R : Room} {fr lo mc : Nat} {sp : me_P} (h : me_M l yX7_setTempo (.code yX7_setTempo cX7_setTempo 4 (some .int)) fr lo mc sp) (h1 : fr + 1 ≤ R.frames) (h2 : lo + 23 ≤ R.locals) : me_cal mt_nm l R 183 (mc, sp) := ⟨cX7_setTempo, 4, (some .int), fr, lo, h, List.mem_of_getElem? (i := 1328) (by rfl), h1, by omega, List.mem_of_getElem? (i := 60) (by rfl), by decide, by decide⟩
def bk_X7_setStretch_0 : List me_I := [(2, 0, 2, [], 1, 0, 0), (2, 0, 2, [], 1, 0, 0), (2, 1, 0, [], 1, 0, 0), (29, 162, 1, [7, 1207, 39], 3, 0, 1205), (14, 13, 1, [], 3, 0, 0), (0, 1, 0, [], 1, 0, 0), (16, 42, 0, [], 3, 0, 0)]
def bk_X7_setStretch_13 : List me_I := [(2, 0, 2, [], 1, 0, 0), (19, 7, 7, [], 3, 0, 1050), (2, 1, 0, [], 1, 0, 0), (2, 2, 0, [], 1, 0, 0), (30, 165, 3, [1228], 3, 0, 1227), (14, 41, 0, [], 3, 0, 0), (2, 3, 0, [], 1, 0, 0), (7, 0, 0, [], 1, 0, 0), (1, 1, 0, [], 1, 0, 0), (1, 4, 0, [], 3, 0, 1200), (30, 126, 3, [1129], 3, 0, 1128), (14, 41, 0, [], 3, 0, 0), (0, 0, 0, [], 1, 0, 0), (16, 42, 0, [], 3, 0, 0)]
def bk_X7_setStretch_41 : List me_I := [(0, 2, 0, [], 1, 0, 0)]
def bk_X7_setStretch_42 : List me_I := [(29, 125, 1, [7, 1133, 29], 3, 0, 1131), (14, 50, 0, [], 3, 0, 0), (0, 0, 0, [], 1, 0, 0), (32, 0, 0, [], 1, 0, 0)]
def bk_X7_setStretch_50 : List me_I := [(2, 0, 2, [], 1, 0, 0), (29, 131, 0, [7, 1323, 47], 3, 0, 1321), (2, 0, 2, [], 1, 0, 0), (19, 7, 7, [], 3, 0, 1050), (2, 1, 0, [], 1, 0, 0), (0, 3, 0, [], 1, 0, 0), (2, 2, 0, [], 1, 0, 0), (4, 0, 0, [], 1, 0, 0), (0, 1, 0, [], 1, 0, 0), (4, 1, 0, [], 1, 0, 0), (30, 133, 2, [1168], 3, 0, 1167), (21, 0, 0, [], 1, 0, 0), (3, 4, 0, [], 2, 0, 0), (2, 0, 2, [], 1, 0, 0), (19, 7, 7, [], 3, 0, 1050), (2, 1, 0, [], 1, 0, 0), (0, 3, 0, [], 1, 0, 0), (2, 2, 0, [], 1, 0, 0), (4, 0, 0, [], 1, 0, 0), (0, 1, 0, [], 1, 0, 0), (4, 1, 0, [], 1, 0, 0), (30, 133, 2, [1168], 3, 0, 1167), (2, 3, 0, [], 1, 0, 0), (22, 0, 0, [], 1, 0, 0), (2, 4, 0, [], 2, 0, 0), (32, 0, 0, [], 1, 0, 0)]
def cd_X7_setStretch : List (Nat × List me_I) := [(0, bk_X7_setStretch_0), (13, bk_X7_setStretch_13), (41, bk_X7_setStretch_41), (42, bk_X7_setStretch_42), (50, bk_X7_setStretch_50)]
theorem bq_X7_setStretch_0 : me_bk cd_X7_setStretch 0 = bk_X7_setStretch_0 := rfl
theorem bq_X7_setStretch_13 : me_bk cd_X7_setStretch 13 = bk_X7_setStretch_13 := rfl
theorem bq_X7_setStretch_41 : me_bk cd_X7_setStretch 41 = bk_X7_setStretch_41 := rfl
theorem bq_X7_setStretch_42 : me_bk cd_X7_setStretch 42 = bk_X7_setStretch_42 := rfl
theorem bq_X7_setStretch_50 : me_bk cd_X7_setStretch 50 = bk_X7_setStretch_50 := rfl
set_option maxRecDepth 100000 in
theorem ck_X7_setStretch : cd_X7_setStretch.all (fun q => me_bck mt_nm RX7 cX7_setStretch 5 (some .int) [125, 126, 131, 133, 162, 165] 0 q.2 q.1) = true := by decide +kernel
set_option maxRecDepth 100000 in
theorem cl_X7_setStretch {l : Launch} {R : Room} {fr lo mc : Nat} {sp : me_P} (h : me_M l yX7_setStretch (.code yX7_setStretch cX7_setStretch 5 (some .int)) fr lo mc sp) (h1 : fr + 1 ≤ R.frames) (h2 : lo + 24 ≤ R.locals) : me_cal mt_nm l R 184 (mc, sp) := ⟨cX7_setStretch, 5, (some .int), fr, lo, h, List.mem_of_getElem? (i := 1337) (by rfl), h1, by omega, List.mem_of_getElem? (i := 60) (by rfl), by decide, by decide⟩
def bk_X7_leaveOut_0 : List me_I := [(2, 0, 2, [], 1, 0, 0), (2, 0, 2, [], 1, 0, 0), (2, 1, 0, [], 1, 0, 0), (29, 162, 1, [7, 1207, 39], 3, 0, 1205), (14, 13, 1, [], 3, 0, 0), (0, 1, 0, [], 1, 0, 0), (16, 30, 0, [], 3, 0, 0)]
def bk_X7_leaveOut_13 : List me_I := [(2, 2, 0, [], 1, 0, 0), (7, 0, 0, [], 1, 0, 0), (1, 1, 0, [], 1, 0, 0), (1, 4, 0, [], 3, 0, 1200), (30, 126, 3, [1129], 3, 0, 1128), (14, 29, 0, [], 3, 0, 0), (0, 0, 0, [], 1, 0, 0), (16, 30, 0, [], 3, 0, 0)]
def bk_X7_leaveOut_29 : List me_I := [(0, 2, 0, [], 1, 0, 0)]
def bk_X7_leaveOut_30 : List me_I := [(29, 125, 1, [7, 1133, 29], 3, 0, 1131), (14, 38, 0, [], 3, 0, 0), (0, 0, 0, [], 1, 0, 0), (34, 0, 0, [], 1, 0, 0)]
def bk_X7_leaveOut_38 : List me_I := [(2, 0, 2, [], 1, 0, 0), (29, 131, 0, [7, 1323, 47], 3, 0, 1321), (2, 0, 2, [], 1, 0, 0), (19, 7, 7, [], 3, 0, 1050), (2, 1, 0, [], 1, 0, 0), (0, 2, 0, [], 1, 0, 0), (30, 133, 2, [1168], 3, 0, 1167), (21, 0, 0, [], 1, 0, 0), (2, 2, 0, [], 1, 0, 0), (0, 1, 0, [], 1, 0, 0), (4, 1, 0, [], 1, 0, 0), (30, 127, 2, [1255], 3, 0, 1254), (3, 4, 0, [], 2, 0, 0), (2, 0, 2, [], 1, 0, 0), (19, 7, 7, [], 3, 0, 1050), (2, 1, 0, [], 1, 0, 0), (0, 2, 0, [], 1, 0, 0), (30, 133, 2, [1168], 3, 0, 1167), (2, 0, 2, [], 1, 0, 0), (19, 7, 7, [], 3, 0, 1050), (2, 1, 0, [], 1, 0, 0), (0, 2, 0, [], 1, 0, 0), (30, 133, 2, [1168], 3, 0, 1167), (21, 0, 0, [], 1, 0, 0), (2, 2, 0, [], 1, 0, 0), (0, 1, 0, [], 1, 0, 0), (4, 1, 0, [], 1, 0, 0), (2, 3, 0, [], 1, 0, 0), (30, 142, 3, [1343], 3, 0, 1342), (22, 0, 0, [], 1, 0, 0), (2, 4, 0, [], 2, 0, 0), (34, 0, 0, [], 1, 0, 0)]
def cd_X7_leaveOut : List (Nat × List me_I) := [(0, bk_X7_leaveOut_0), (13, bk_X7_leaveOut_13), (29, bk_X7_leaveOut_29), (30, bk_X7_leaveOut_30), (38, bk_X7_leaveOut_38)]
theorem bq_X7_leaveOut_0 : me_bk cd_X7_leaveOut 0 = bk_X7_leaveOut_0 := rfl
theorem bq_X7_leaveOut_13 : me_bk cd_X7_leaveOut 13 = bk_X7_leaveOut_13 := rfl
theorem bq_X7_leaveOut_29 : me_bk cd_X7_leaveOut 29 = bk_X7_leaveOut_29 := rfl
theorem bq_X7_leaveOut_30 : me_bk cd_X7_leaveOut 30 = bk_X7_leaveOut_30 := rfl
theorem bq_X7_leaveOut_38 : me_bk cd_X7_leaveOut 38 = bk_X7_leaveOut_38 := rfl
set_option maxRecDepth 100000 in
theorem ck_X7_leaveOut : cd_X7_leaveOut.all (fun q => me_bck mt_nm RX7 cX7_leaveOut 5 (some .boolean) [125, 126, 127, 131, 133, 142, 162] 0 q.2 q.1) = true := by decide +kernel
set_option maxRecDepth 100000 in
theorem cl_X7_leaveOut {l : Launch} {R : Room} {fr lo mc : Nat} {sp : me_P} (h : me_M l yX7_leaveOut (.code yX7_leaveOut cX7_leaveOut 5 (some .boolean)) fr lo mc sp) (h1 : fr + 1 ≤ R.frames) (h2 : lo + 24 ≤ R.locals) : me_cal mt_nm l R 185 (mc, sp) := ⟨cX7_leaveOut, 5, (some .boolean), fr, lo, h, List.mem_of_getElem? (i := 1341) (by rfl), h1, by omega, List.mem_of_getElem? (i := 60) (by rfl), by decide, by decide⟩
def bk_X7_isFree_0 : List me_I := [(2, 0, 2, [], 1, 0, 0), (19, 7, 7, [], 3, 0, 1050), (0, 1, 0, [], 1, 0, 0), (21, 0, 0, [], 1, 0, 0), (0, 4, 0, [], 1, 0, 0), (15, 14, 3, [], 3, 0, 0), (0, 1, 0, [], 1, 0, 0), (16, 15, 0, [], 3, 0, 0)]
def bk_X7_isFree_14 : List me_I := [(0, 0, 0, [], 1, 0, 0)]
def bk_X7_isFree_15 : List me_I := [(3, 3, 0, [], 1, 0, 0), (2, 1, 0, [], 1, 0, 0), (3, 4, 0, [], 2, 0, 0)]
def bk_X7_isFree_19 : List me_I := [(2, 4, 0, [], 2, 0, 0), (2, 2, 0, [], 1, 0, 0), (15, 55, 4, [], 3, 0, 0), (2, 3, 0, [], 1, 0, 0), (14, 47, 0, [], 3, 0, 0), (2, 0, 2, [], 1, 0, 0), (19, 7, 7, [], 3, 0, 1050), (2, 4, 0, [], 2, 0, 0), (30, 137, 2, [1214], 3, 0, 1213), (0, 9, 1, [], 2, 0, 0), (15, 47, 1, [], 3, 0, 0), (0, 1, 0, [], 1, 0, 0), (16, 48, 0, [], 3, 0, 0)]
def bk_X7_isFree_47 : List me_I := [(0, 0, 0, [], 1, 0, 0)]
def bk_X7_isFree_48 : List me_I := [(3, 3, 0, [], 1, 0, 0), (13, 4, 1, [], 3, 0, 0), (16, 19, 0, [], 3, 0, 0)]
def bk_X7_isFree_55 : List me_I := [(2, 3, 0, [], 1, 0, 0), (34, 0, 0, [], 1, 0, 0)]
def cd_X7_isFree : List (Nat × List me_I) := [(0, bk_X7_isFree_0), (14, bk_X7_isFree_14), (15, bk_X7_isFree_15), (19, bk_X7_isFree_19), (47, bk_X7_isFree_47), (48, bk_X7_isFree_48), (55, bk_X7_isFree_55)]
theorem bq_X7_isFree_0 : me_bk cd_X7_isFree 0 = bk_X7_isFree_0 := rfl
theorem bq_X7_isFree_14 : me_bk cd_X7_isFree 14 = bk_X7_isFree_14 := rfl
theorem bq_X7_isFree_15 : me_bk cd_X7_isFree 15 = bk_X7_isFree_15 := rfl
theorem bq_X7_isFree_19 : me_bk cd_X7_isFree 19 = bk_X7_isFree_19 := rfl
theorem bq_X7_isFree_47 : me_bk cd_X7_isFree 47 = bk_X7_isFree_47 := rfl
theorem bq_X7_isFree_48 : me_bk cd_X7_isFree 48 = bk_X7_isFree_48 := rfl
theorem bq_X7_isFree_55 : me_bk cd_X7_isFree 55 = bk_X7_isFree_55 := rfl
set_option maxRecDepth 100000 in
theorem ck_X7_isFree : cd_X7_isFree.all (fun q => me_bck mt_nm RX7 cX7_isFree 5 (some .boolean) [137] 0 q.2 q.1) = true := by decide +kernel
set_option maxRecDepth 100000 in
theorem cl_X7_isFree {l : Launch} {R : Room} {fr lo mc : Nat} {sp : me_P} (h : me_M l yX7_isFree (.code yX7_isFree cX7_isFree 5 (some .boolean)) fr lo mc sp) (h1 : fr + 1 ≤ R.frames) (h2 : lo + 24 ≤ R.locals) : me_cal mt_nm l R 186 (mc, sp) := ⟨cX7_isFree, 5, (some .boolean), fr, lo, h, List.mem_of_getElem? (i := 1352) (by rfl), h1, by omega, List.mem_of_getElem? (i := 60) (by rfl), by decide, by decide⟩
def bk_X7_addSection_0 : List me_I := [(2, 0, 2, [], 1, 0, 0), (2, 1, 0, [], 1, 0, 0), (29, 162, 1, [7, 1207, 39], 3, 0, 1205), (14, 20, 0, [], 3, 0, 0), (2, 0, 2, [], 1, 0, 0), (2, 2, 0, [], 1, 0, 0), (29, 162, 1, [7, 1207, 39], 3, 0, 1205), (14, 20, 0, [], 3, 0, 0), (0, 1, 0, [], 1, 0, 0), (16, 21, 0, [], 3, 0, 0)]
def bk_X7_addSection_20 : List me_I := [(0, 0, 0, [], 1, 0, 0)]
def bk_X7_addSection_21 : List me_I := [(3, 4, 0, [], 2, 0, 0), (2, 0, 2, [], 1, 0, 0), (2, 4, 0, [], 2, 0, 0), (14, 33, 1, [], 3, 0, 0), (0, 1, 0, [], 1, 0, 0), (16, 70, 0, [], 3, 0, 0)]
def bk_X7_addSection_33 : List me_I := [(2, 2, 0, [], 1, 0, 0), (2, 1, 0, [], 1, 0, 0), (15, 52, 2, [], 3, 0, 0), (2, 3, 0, [], 1, 0, 0), (7, 0, 0, [], 1, 0, 0), (1, 2, 0, [], 3, 0, 1238), (1, 4, 0, [], 3, 0, 1200), (30, 126, 3, [1129], 3, 0, 1128), (14, 56, 1, [], 3, 0, 0)]
def bk_X7_addSection_52 : List me_I := [(0, 2, 0, [], 1, 0, 0), (16, 70, 0, [], 3, 0, 0)]
def bk_X7_addSection_56 : List me_I := [(2, 0, 2, [], 1, 0, 0), (2, 1, 0, [], 1, 0, 0), (2, 2, 0, [], 1, 0, 0), (29, 186, 2, [7, 1351, 48], 3, 0, 1349), (14, 69, 0, [], 3, 0, 0), (0, 0, 0, [], 1, 0, 0), (16, 70, 0, [], 3, 0, 0)]
def bk_X7_addSection_69 : List me_I := [(0, 3, 0, [], 1, 0, 0)]
def bk_X7_addSection_70 : List me_I := [(29, 125, 1, [7, 1133, 29], 3, 0, 1131), (14, 78, 0, [], 3, 0, 0), (0, 0, 0, [], 1, 0, 0), (32, 0, 0, [], 1, 0, 0)]
def bk_X7_addSection_78 : List me_I := [(2, 0, 2, [], 1, 0, 0), (29, 131, 0, [7, 1323, 47], 3, 0, 1321), (2, 0, 2, [], 1, 0, 0), (19, 7, 7, [], 3, 0, 1050), (2, 1, 0, [], 1, 0, 0), (2, 2, 0, [], 1, 0, 0), (2, 3, 0, [], 1, 0, 0), (30, 140, 4, [1179], 3, 0, 1178), (32, 0, 0, [], 1, 0, 0)]
def cd_X7_addSection : List (Nat × List me_I) := [(0, bk_X7_addSection_0), (20, bk_X7_addSection_20), (21, bk_X7_addSection_21), (33, bk_X7_addSection_33), (52, bk_X7_addSection_52), (56, bk_X7_addSection_56), (69, bk_X7_addSection_69), (70, bk_X7_addSection_70), (78, bk_X7_addSection_78)]
theorem bq_X7_addSection_0 : me_bk cd_X7_addSection 0 = bk_X7_addSection_0 := rfl
theorem bq_X7_addSection_20 : me_bk cd_X7_addSection 20 = bk_X7_addSection_20 := rfl
theorem bq_X7_addSection_21 : me_bk cd_X7_addSection 21 = bk_X7_addSection_21 := rfl
theorem bq_X7_addSection_33 : me_bk cd_X7_addSection 33 = bk_X7_addSection_33 := rfl
theorem bq_X7_addSection_52 : me_bk cd_X7_addSection 52 = bk_X7_addSection_52 := rfl
theorem bq_X7_addSection_56 : me_bk cd_X7_addSection 56 = bk_X7_addSection_56 := rfl
theorem bq_X7_addSection_69 : me_bk cd_X7_addSection 69 = bk_X7_addSection_69 := rfl
theorem bq_X7_addSection_70 : me_bk cd_X7_addSection 70 = bk_X7_addSection_70 := rfl
theorem bq_X7_addSection_78 : me_bk cd_X7_addSection 78 = bk_X7_addSection_78 := rfl
set_option maxRecDepth 100000 in
theorem ck_X7_addSection : cd_X7_addSection.all (fun q => me_bck mt_nm RX7 cX7_addSection 5 (some .int) [125, 126, 131, 140, 162, 186] 0 q.2 q.1) = true := by decide +kernel
set_option maxRecDepth 100000 in
theorem cl_X7_addSection {l : Launch} {R : Room} {fr lo mc : Nat} {sp : me_P} (h : me_M l yX7_addSection (.code yX7_addSection cX7_addSection 5 (some .int)) fr lo mc sp) (h1 : fr + 1 ≤ R.frames) (h2 : lo + 24 ≤ R.locals) : me_cal mt_nm l R 187 (mc, sp) := ⟨cX7_addSection, 5, (some .int), fr, lo, h, List.mem_of_getElem? (i := 1348) (by rfl), h1, by omega, List.mem_of_getElem? (i := 60) (by rfl), by decide, by decide⟩
def bk_X7_removeSection_0 : List me_I := [(2, 0, 2, [], 1, 0, 0), (2, 0, 2, [], 1, 0, 0), (2, 1, 0, [], 1, 0, 0), (29, 167, 1, [7, 1236, 40], 3, 0, 1234), (14, 13, 0, [], 3, 0, 0), (0, 0, 0, [], 1, 0, 0), (16, 14, 0, [], 3, 0, 0)]
def bk_X7_removeSection_13 : List me_I := [(0, 1, 0, [], 1, 0, 0)]
def bk_X7_removeSection_14 : List me_I := [(29, 125, 1, [7, 1133, 29], 3, 0, 1131), (14, 22, 0, [], 3, 0, 0), (0, 0, 0, [], 1, 0, 0), (32, 0, 0, [], 1, 0, 0)]
def bk_X7_removeSection_22 : List me_I := [(2, 0, 2, [], 1, 0, 0), (29, 131, 0, [7, 1323, 47], 3, 0, 1321), (2, 0, 2, [], 1, 0, 0), (19, 7, 7, [], 3, 0, 1050), (2, 1, 0, [], 1, 0, 0), (30, 141, 2, [1358], 3, 0, 1357), (2, 0, 2, [], 1, 0, 0), (19, 7, 7, [], 3, 0, 1050), (0, 1, 0, [], 1, 0, 0), (21, 0, 0, [], 1, 0, 0), (32, 0, 0, [], 1, 0, 0)]
def cd_X7_removeSection : List (Nat × List me_I) := [(0, bk_X7_removeSection_0), (13, bk_X7_removeSection_13), (14, bk_X7_removeSection_14), (22, bk_X7_removeSection_22)]
theorem bq_X7_removeSection_0 : me_bk cd_X7_removeSection 0 = bk_X7_removeSection_0 := rfl
theorem bq_X7_removeSection_13 : me_bk cd_X7_removeSection 13 = bk_X7_removeSection_13 := rfl
theorem bq_X7_removeSection_14 : me_bk cd_X7_removeSection 14 = bk_X7_removeSection_14 := rfl
theorem bq_X7_removeSection_22 : me_bk cd_X7_removeSection 22 = bk_X7_removeSection_22 := rfl
set_option maxRecDepth 100000 in
theorem ck_X7_removeSection : cd_X7_removeSection.all (fun q => me_bck mt_nm RX7 cX7_removeSection 2 (some .int) [125, 131, 141, 167] 0 q.2 q.1) = true := by decide +kernel
set_option maxRecDepth 100000 in
theorem cl_X7_removeSection {l : Launch} {R : Room} {fr lo mc : Nat} {sp : me_P} (h : me_M l yX7_removeSection (.code yX7_removeSection cX7_removeSection 2 (some .int)) fr lo mc sp) (h1 : fr + 1 ≤ R.frames) (h2 : lo + 21 ≤ R.locals) : me_cal mt_nm l R 188 (mc, sp) := ⟨cX7_removeSection, 2, (some .int), fr, lo, h, List.mem_of_getElem? (i := 1356) (by rfl), h1, by omega, List.mem_of_getElem? (i := 60) (by rfl), by decide, by decide⟩
def bk_X7_skip_0 : List me_I := [(2, 0, 2, [], 1, 0, 0), (2, 1, 0, [], 1, 0, 0), (30, 163, 1, [1244], 3, 0, 1243), (14, 20, 0, [], 3, 0, 0), (2, 0, 2, [], 1, 0, 0), (2, 2, 0, [], 1, 0, 0), (29, 162, 1, [7, 1207, 39], 3, 0, 1205), (14, 20, 0, [], 3, 0, 0), (0, 0, 0, [], 1, 0, 0), (16, 21, 0, [], 3, 0, 0)]
def bk_X7_skip_20 : List me_I := [(0, 1, 0, [], 1, 0, 0)]
def bk_X7_skip_21 : List me_I := [(29, 125, 1, [7, 1133, 29], 3, 0, 1131), (14, 29, 0, [], 3, 0, 0), (0, 0, 0, [], 1, 0, 0), (32, 0, 0, [], 1, 0, 0)]
def bk_X7_skip_29 : List me_I := [(2, 0, 2, [], 1, 0, 0), (29, 131, 0, [7, 1323, 47], 3, 0, 1321), (2, 0, 2, [], 1, 0, 0), (19, 7, 7, [], 3, 0, 1050), (0, 2, 0, [], 1, 0, 0), (2, 1, 0, [], 1, 0, 0), (4, 0, 0, [], 1, 0, 0), (2, 0, 2, [], 1, 0, 0), (19, 7, 7, [], 3, 0, 1050), (0, 2, 0, [], 1, 0, 0), (2, 1, 0, [], 1, 0, 0), (4, 0, 0, [], 1, 0, 0), (21, 0, 0, [], 1, 0, 0), (2, 2, 0, [], 1, 0, 0), (2, 3, 0, [], 1, 0, 0), (30, 142, 3, [1343], 3, 0, 1342), (22, 0, 0, [], 1, 0, 0), (2, 0, 2, [], 1, 0, 0), (19, 7, 7, [], 3, 0, 1050), (0, 2, 0, [], 1, 0, 0), (2, 1, 0, [], 1, 0, 0), (4, 0, 0, [], 1, 0, 0), (21, 0, 0, [], 1, 0, 0), (30, 128, 1, [1365], 3, 0, 1364), (32, 0, 0, [], 1, 0, 0)]
def cd_X7_skip : List (Nat × List me_I) := [(0, bk_X7_skip_0), (20, bk_X7_skip_20), (21, bk_X7_skip_21), (29, bk_X7_skip_29)]
theorem bq_X7_skip_0 : me_bk cd_X7_skip 0 = bk_X7_skip_0 := rfl
theorem bq_X7_skip_20 : me_bk cd_X7_skip 20 = bk_X7_skip_20 := rfl
theorem bq_X7_skip_21 : me_bk cd_X7_skip 21 = bk_X7_skip_21 := rfl
theorem bq_X7_skip_29 : me_bk cd_X7_skip 29 = bk_X7_skip_29 := rfl
set_option maxRecDepth 100000 in
theorem ck_X7_skip : cd_X7_skip.all (fun q => me_bck mt_nm RX7 cX7_skip 4 (some .int) [125, 128, 131, 142, 162, 163] 0 q.2 q.1) = true := by decide +kernel
set_option maxRecDepth 100000 in
theorem cl_X7_skip {l : Launch} {R : Room} {fr lo mc : Nat} {sp : me_P} (h : me_M l yX7_skip (.code yX7_skip cX7_skip 4 (some .int)) fr lo mc sp) (h1 : fr + 1 ≤ R.frames) (h2 : lo + 23 ≤ R.locals) : me_cal mt_nm l R 189 (mc, sp) := ⟨cX7_skip, 4, (some .int), fr, lo, h, List.mem_of_getElem? (i := 1363) (by rfl), h1, by omega, List.mem_of_getElem? (i := 60) (by rfl), by decide, by decide⟩
def bk_X7_undo_0 : List me_I := [(2, 0, 2, [], 1, 0, 0), (2, 0, 2, [], 1, 0, 0), (19, 7, 10, [], 3, 0, 1053), (14, 12, 1, [], 3, 0, 0), (0, 1, 0, [], 1, 0, 0), (16, 13, 0, [], 3, 0, 0)]
def bk_X7_undo_12 : List me_I := [(0, 0, 0, [], 1, 0, 0)]
def bk_X7_undo_13 : List me_I := [(29, 125, 1, [7, 1133, 29], 3, 0, 1131), (14, 21, 0, [], 3, 0, 0), (0, 0, 0, [], 1, 0, 0), (32, 0, 0, [], 1, 0, 0)]
def bk_X7_undo_21 : List me_I := [(2, 0, 2, [], 1, 0, 0), (10, 0, 0, [], 1, 0, 0), (19, 7, 10, [], 3, 0, 1053), (0, 1, 0, [], 1, 0, 0), (4, 1, 0, [], 1, 0, 0), (20, 7, 10, [], 3, 0, 1053), (2, 0, 2, [], 1, 0, 0), (19, 7, 9, [], 3, 0, 1052), (0, 305, 0, [], 3, 0, 0), (2, 0, 2, [], 1, 0, 0), (19, 7, 10, [], 3, 0, 1053), (4, 2, 0, [], 1, 0, 0), (2, 0, 2, [], 1, 0, 0), (19, 7, 7, [], 3, 0, 1050), (0, 0, 0, [], 1, 0, 0), (0, 305, 0, [], 3, 0, 0), (30, 129, 5, [1194], 3, 0, 1193), (2, 0, 2, [], 1, 0, 0), (19, 7, 10, [], 3, 0, 1053), (32, 0, 0, [], 1, 0, 0)]
def cd_X7_undo : List (Nat × List me_I) := [(0, bk_X7_undo_0), (12, bk_X7_undo_12), (13, bk_X7_undo_13), (21, bk_X7_undo_21)]
theorem bq_X7_undo_0 : me_bk cd_X7_undo 0 = bk_X7_undo_0 := rfl
theorem bq_X7_undo_12 : me_bk cd_X7_undo 12 = bk_X7_undo_12 := rfl
theorem bq_X7_undo_13 : me_bk cd_X7_undo 13 = bk_X7_undo_13 := rfl
theorem bq_X7_undo_21 : me_bk cd_X7_undo 21 = bk_X7_undo_21 := rfl
set_option maxRecDepth 100000 in
theorem ck_X7_undo : cd_X7_undo.all (fun q => me_bck mt_nm RX7 cX7_undo 1 (some .int) [125, 129] 0 q.2 q.1) = true := by decide +kernel
set_option maxRecDepth 100000 in
theorem cl_X7_undo {l : Launch} {R : Room} {fr lo mc : Nat} {sp : me_P} (h : me_M l yX7_undo (.code yX7_undo cX7_undo 1 (some .int)) fr lo mc sp) (h1 : fr + 1 ≤ R.frames) (h2 : lo + 20 ≤ R.locals) : me_cal mt_nm l R 190 (mc, sp) := ⟨cX7_undo, 1, (some .int), fr, lo, h, List.mem_of_getElem? (i := 1370) (by rfl), h1, by omega, List.mem_of_getElem? (i := 60) (by rfl), by decide, by decide⟩
def bk_X7_percentage_0 : List me_I := [(2, 0, 2, [], 1, 0, 0), (2, 1, 0, [], 1, 0, 0), (30, 163, 1, [1244], 3, 0, 1243), (14, 12, 1, [], 3, 0, 0), (0, 1, 0, [], 1, 0, 0), (16, 23, 0, [], 3, 0, 0)]
def bk_X7_percentage_12 : List me_I := [(2, 2, 1, [], 1, 0, 0), (1, 0, 0, [], 1, 0, 0), (9, 0, 0, [], 1, 0, 0), (14, 22, 3, [], 3, 0, 0), (0, 2, 0, [], 1, 0, 0), (16, 23, 0, [], 3, 0, 0)]
def bk_X7_percentage_22 : List me_I := [(0, 0, 0, [], 1, 0, 0)]
def bk_X7_percentage_23 : List me_I := [(29, 125, 1, [7, 1133, 29], 3, 0, 1131), (14, 31, 0, [], 3, 0, 0), (0, 0, 0, [], 1, 0, 0), (32, 0, 0, [], 1, 0, 0)]
def bk_X7_percentage_31 : List me_I := [(0, 50, 0, [], 2, 0, 0), (3, 4, 0, [], 2, 0, 0)]
def bk_X7_percentage_35 : List me_I := [(2, 4, 0, [], 2, 0, 0), (0, 200, 0, [], 3, 0, 0), (15, 77, 4, [], 3, 0, 0), (2, 0, 2, [], 1, 0, 0), (2, 0, 2, [], 1, 0, 0), (19, 7, 7, [], 3, 0, 1050), (2, 1, 0, [], 1, 0, 0), (2, 4, 0, [], 2, 0, 0), (29, 143, 3, [7, 1252, 42], 3, 0, 1250), (2, 0, 2, [], 1, 0, 0), (19, 7, 15, [], 3, 0, 1058), (2, 0, 2, [], 1, 0, 0), (19, 7, 16, [], 3, 0, 1059), (23, 0, 0, [], 1, 0, 0), (2, 2, 1, [], 1, 0, 0), (9, 0, 0, [], 1, 0, 0), (14, 71, 4, [], 3, 0, 0), (2, 4, 0, [], 2, 0, 0), (32, 0, 0, [], 1, 0, 0)]
def bk_X7_percentage_71 : List me_I := [(13, 4, 1, [], 3, 0, 0), (16, 35, 0, [], 3, 0, 0)]
def bk_X7_percentage_77 : List me_I := [(0, 9, 1, [], 2, 0, 0), (32, 0, 0, [], 1, 0, 0)]
def cd_X7_percentage : List (Nat × List me_I) := [(0, bk_X7_percentage_0), (12, bk_X7_percentage_12), (22, bk_X7_percentage_22), (23, bk_X7_percentage_23), (31, bk_X7_percentage_31), (35, bk_X7_percentage_35), (71, bk_X7_percentage_71), (77, bk_X7_percentage_77)]
theorem bq_X7_percentage_0 : me_bk cd_X7_percentage 0 = bk_X7_percentage_0 := rfl
theorem bq_X7_percentage_12 : me_bk cd_X7_percentage 12 = bk_X7_percentage_12 := rfl
theorem bq_X7_percentage_22 : me_bk cd_X7_percentage 22 = bk_X7_percentage_22 := rfl
theorem bq_X7_percentage_23 : me_bk cd_X7_percentage 23 = bk_X7_percentage_23 := rfl
theorem bq_X7_percentage_31 : me_bk cd_X7_percentage 31 = bk_X7_percentage_31 := rfl
theorem bq_X7_percentage_35 : me_bk cd_X7_percentage 35 = bk_X7_percentage_35 := rfl
theorem bq_X7_percentage_71 : me_bk cd_X7_percentage 71 = bk_X7_percentage_71 := rfl
theorem bq_X7_percentage_77 : me_bk cd_X7_percentage 77 = bk_X7_percentage_77 := rfl
set_option maxRecDepth 100000 in
theorem ck_X7_percentage : cd_X7_percentage.all (fun q => me_bck mt_nm RX7 cX7_percentage 5 (some .int) [125, 143, 163] 0 q.2 q.1) = true := by decide +kernel
set_option maxRecDepth 100000 in
theorem cl_X7_percentage {l : Launch} {R : Room} {fr lo mc : Nat} {sp : me_P} (h : me_M l yX7_percentage (.code yX7_percentage cX7_percentage 5 (some .int)) fr lo mc sp) (h1 : fr + 1 ≤ R.frames) (h2 : lo + 24 ≤ R.locals) : me_cal mt_nm l R 191 (mc, sp) := ⟨cX7_percentage, 5, (some .int), fr, lo, h, List.mem_of_getElem? (i := 1374) (by rfl), h1, by omega, List.mem_of_getElem? (i := 60) (by rfl), by decide, by decide⟩
def bk_X7_longest_0 : List me_I := [(2, 0, 2, [], 1, 0, 0), (2, 1, 0, [], 1, 0, 0), (30, 163, 1, [1244], 3, 0, 1243), (14, 12, 0, [], 3, 0, 0), (0, 0, 0, [], 1, 0, 0), (16, 13, 0, [], 3, 0, 0)]
def bk_X7_longest_12 : List me_I := [(0, 1, 0, [], 1, 0, 0)]
def bk_X7_longest_13 : List me_I := [(29, 125, 1, [7, 1133, 29], 3, 0, 1131), (14, 21, 0, [], 3, 0, 0), (0, 0, 0, [], 1, 0, 0), (32, 0, 0, [], 1, 0, 0)]
def bk_X7_longest_21 : List me_I := [(2, 0, 2, [], 1, 0, 0), (2, 1, 0, [], 1, 0, 0), (29, 145, 1, [7, 1248, 41], 3, 0, 1246), (0, 9, 1, [], 2, 0, 0), (3, 2, 0, [], 1, 0, 0), (1, 0, 0, [], 1, 0, 0), (3, 3, 1, [], 1, 0, 0), (0, 0, 0, [], 1, 0, 0), (3, 5, 0, [], 2, 0, 0)]
def bk_X7_longest_34 : List me_I := [(2, 5, 0, [], 2, 0, 0), (2, 0, 2, [], 1, 0, 0), (19, 7, 7, [], 3, 0, 1050), (0, 0, 0, [], 1, 0, 0), (21, 0, 0, [], 1, 0, 0), (15, 138, 3, [], 3, 0, 0), (1, 0, 0, [], 1, 0, 0), (3, 6, 1, [], 2, 0, 0), (0, 0, 0, [], 1, 0, 0), (3, 8, 0, [], 2, 0, 0)]
def bk_X7_longest_51 : List me_I := [(2, 8, 0, [], 2, 0, 0), (2, 0, 2, [], 1, 0, 0), (19, 7, 16, [], 3, 0, 1059), (15, 104, 3, [], 3, 0, 0), (2, 6, 1, [], 2, 0, 0), (2, 0, 2, [], 1, 0, 0), (19, 7, 13, [], 3, 0, 1056), (2, 8, 0, [], 2, 0, 0), (21, 0, 0, [], 1, 0, 0), (2, 5, 0, [], 2, 0, 0), (15, 94, 1, [], 3, 0, 0), (2, 0, 2, [], 1, 0, 0), (19, 7, 15, [], 3, 0, 1058), (2, 8, 0, [], 2, 0, 0), (0, 1, 0, [], 1, 0, 0), (4, 0, 0, [], 1, 0, 0), (23, 0, 0, [], 1, 0, 0), (2, 0, 2, [], 1, 0, 0), (19, 7, 15, [], 3, 0, 1058), (2, 8, 0, [], 2, 0, 0), (23, 0, 0, [], 1, 0, 0), (5, 1, 0, [], 1, 0, 0), (16, 95, 0, [], 3, 0, 0)]
def bk_X7_longest_94 : List me_I := [(1, 0, 0, [], 1, 0, 0)]
def bk_X7_longest_95 : List me_I := [(5, 0, 0, [], 1, 0, 0), (3, 6, 1, [], 2, 0, 0), (13, 8, 1, [], 3, 0, 0), (16, 51, 0, [], 3, 0, 0)]
def bk_X7_longest_104 : List me_I := [(2, 6, 1, [], 2, 0, 0), (2, 3, 1, [], 1, 0, 0), (9, 0, 0, [], 1, 0, 0), (14, 116, 5, [], 3, 0, 0), (2, 5, 0, [], 2, 0, 0), (16, 117, 0, [], 3, 0, 0)]
def bk_X7_longest_116 : List me_I := [(2, 2, 0, [], 1, 0, 0)]
def bk_X7_longest_117 : List me_I := [(3, 2, 0, [], 1, 0, 0), (2, 6, 1, [], 2, 0, 0), (2, 3, 1, [], 1, 0, 0), (9, 0, 0, [], 1, 0, 0), (14, 130, 5, [], 3, 0, 0), (2, 6, 1, [], 2, 0, 0), (16, 131, 0, [], 3, 0, 0)]
def bk_X7_longest_130 : List me_I := [(2, 3, 1, [], 1, 0, 0)]
def bk_X7_longest_131 : List me_I := [(3, 3, 1, [], 1, 0, 0), (13, 5, 1, [], 3, 0, 0), (16, 34, 0, [], 3, 0, 0)]
def bk_X7_longest_138 : List me_I := [(2, 2, 0, [], 1, 0, 0), (32, 0, 0, [], 1, 0, 0)]
def cd_X7_longest : List (Nat × List me_I) := [(0, bk_X7_longest_0), (12, bk_X7_longest_12), (13, bk_X7_longest_13), (21, bk_X7_longest_21), (34, bk_X7_longest_34), (51, bk_X7_longest_51), (94, bk_X7_longest_94), (95, bk_X7_longest_95), (104, bk_X7_longest_104), (116, bk_X7_longest_116), (117, bk_X7_longest_117), (130, bk_X7_longest_130), (131, bk_X7_longest_131), (138, bk_X7_longest_138)]
theorem bq_X7_longest_0 : me_bk cd_X7_longest 0 = bk_X7_longest_0 := rfl
theorem bq_X7_longest_12 : me_bk cd_X7_longest 12 = bk_X7_longest_12 := rfl
theorem bq_X7_longest_13 : me_bk cd_X7_longest 13 = bk_X7_longest_13 := rfl
theorem bq_X7_longest_21 : me_bk cd_X7_longest 21 = bk_X7_longest_21 := rfl
theorem bq_X7_longest_34 : me_bk cd_X7_longest 34 = bk_X7_longest_34 := rfl
theorem bq_X7_longest_51 : me_bk cd_X7_longest 51 = bk_X7_longest_51 := rfl
theorem bq_X7_longest_94 : me_bk cd_X7_longest 94 = bk_X7_longest_94 := rfl
theorem bq_X7_longest_95 : me_bk cd_X7_longest 95 = bk_X7_longest_95 := rfl
theorem bq_X7_longest_104 : me_bk cd_X7_longest 104 = bk_X7_longest_104 := rfl
theorem bq_X7_longest_116 : me_bk cd_X7_longest 116 = bk_X7_longest_116 := rfl
theorem bq_X7_longest_117 : me_bk cd_X7_longest 117 = bk_X7_longest_117 := rfl
theorem bq_X7_longest_130 : me_bk cd_X7_longest 130 = bk_X7_longest_130 := rfl
theorem bq_X7_longest_131 : me_bk cd_X7_longest 131 = bk_X7_longest_131 := rfl
theorem bq_X7_longest_138 : me_bk cd_X7_longest 138 = bk_X7_longest_138 := rfl
set_option maxRecDepth 100000 in
theorem ck_X7_longest : cd_X7_longest.all (fun q => me_bck mt_nm RX7 cX7_longest 9 (some .int) [125, 145, 163] 0 q.2 q.1) = true := by decide +kernel
set_option maxRecDepth 100000 in
theorem cl_X7_longest {l : Launch} {R : Room} {fr lo mc : Nat} {sp : me_P} (h : me_M l yX7_longest (.code yX7_longest cX7_longest 9 (some .int)) fr lo mc sp) (h1 : fr + 1 ≤ R.frames) (h2 : lo + 28 ≤ R.locals) : me_cal mt_nm l R 192 (mc, sp) := ⟨cX7_longest, 9, (some .int), fr, lo, h, List.mem_of_getElem? (i := 1378) (by rfl), h1, by omega, List.mem_of_getElem? (i := 60) (by rfl), by decide, by decide⟩
def bk_X7_does_0 : List me_I := [(2, 1, 0, [], 1, 0, 0), (0, 10000, 0, [], 3, 0, 0), (4, 8, 0, [], 1, 0, 0), (3, 2, 0, [], 1, 0, 0), (2, 1, 0, [], 1, 0, 0), (0, 1000, 0, [], 3, 0, 0), (4, 8, 0, [], 1, 0, 0), (0, 10, 0, [], 2, 0, 0), (4, 9, 0, [], 1, 0, 0), (3, 3, 0, [], 1, 0, 0), (2, 1, 0, [], 1, 0, 0), (0, 100, 0, [], 2, 0, 0), (4, 8, 0, [], 1, 0, 0), (0, 10, 0, [], 2, 0, 0), (4, 9, 0, [], 1, 0, 0), (3, 4, 0, [], 2, 0, 0), (2, 1, 0, [], 1, 0, 0), (0, 10, 0, [], 2, 0, 0), (4, 8, 0, [], 1, 0, 0), (0, 10, 0, [], 2, 0, 0), (4, 9, 0, [], 1, 0, 0), (3, 5, 0, [], 2, 0, 0), (2, 1, 0, [], 1, 0, 0), (0, 10, 0, [], 2, 0, 0), (4, 9, 0, [], 1, 0, 0), (3, 6, 0, [], 2, 0, 0), (2, 1, 0, [], 1, 0, 0), (0, 100, 0, [], 2, 0, 0), (4, 8, 0, [], 1, 0, 0), (0, 100, 0, [], 2, 0, 0), (4, 9, 0, [], 1, 0, 0), (3, 7, 0, [], 2, 0, 0), (2, 7, 0, [], 2, 0, 0), (2, 0, 2, [], 1, 0, 0), (19, 7, 8, [], 3, 0, 1051), (0, 0, 0, [], 1, 0, 0), (21, 0, 0, [], 1, 0, 0), (15, 63, 3, [], 3, 0, 0), (0, 1, 0, [], 1, 0, 0), (16, 64, 0, [], 3, 0, 0)]
def bk_X7_does_63 : List me_I := [(0, 0, 0, [], 1, 0, 0)]
def bk_X7_does_64 : List me_I := [(3, 8, 0, [], 2, 0, 0), (2, 1, 0, [], 1, 0, 0), (0, 10, 0, [], 2, 0, 0), (4, 8, 0, [], 1, 0, 0), (0, 100, 0, [], 2, 0, 0), (4, 9, 0, [], 1, 0, 0), (3, 9, 0, [], 2, 0, 0), (2, 2, 0, [], 1, 0, 0), (17, 1, 0, [555, 128, 168, 208, 262, 330, 390, 432, 481, 511], 52, 0, 0)]
def bk_X7_does_128 : List me_I := [(2, 1, 0, [], 1, 0, 0), (0, 10, 0, [], 2, 0, 0), (4, 8, 0, [], 1, 0, 0), (0, 1000, 0, [], 3, 0, 0), (4, 9, 0, [], 1, 0, 0), (14, 155, 1, [], 3, 0, 0), (2, 6, 0, [], 2, 0, 0), (14, 155, 0, [], 3, 0, 0), (2, 0, 2, [], 1, 0, 0), (19, 7, 8, [], 3, 0, 1051), (0, 0, 0, [], 1, 0, 0), (21, 0, 0, [], 1, 0, 0), (0, 24, 0, [], 2, 0, 0), (15, 157, 1, [], 3, 0, 0)]
def bk_X7_does_155 : List me_I := [(0, 0, 0, [], 1, 0, 0), (34, 0, 0, [], 1, 0, 0)]
def bk_X7_does_157 : List me_I := [(2, 0, 2, [], 1, 0, 0), (19, 7, 8, [], 3, 0, 1051), (2, 6, 0, [], 2, 0, 0), (30, 139, 2, [1165], 3, 0, 1164), (0, 1, 0, [], 1, 0, 0), (34, 0, 0, [], 1, 0, 0)]
def bk_X7_does_168 : List me_I := [(2, 8, 0, [], 2, 0, 0), (14, 186, 0, [], 3, 0, 0), (0, 10, 0, [], 2, 0, 0), (2, 1, 0, [], 1, 0, 0), (0, 100, 0, [], 2, 0, 0), (4, 9, 0, [], 1, 0, 0), (4, 2, 0, [], 1, 0, 0), (30, 182, 1, [1330], 3, 0, 1329), (14, 188, 1, [], 3, 0, 0)]
def bk_X7_does_186 : List me_I := [(0, 0, 0, [], 1, 0, 0), (34, 0, 0, [], 1, 0, 0)]
def bk_X7_does_188 : List me_I := [(2, 0, 2, [], 1, 0, 0), (19, 7, 8, [], 3, 0, 1051), (2, 7, 0, [], 2, 0, 0), (0, 1, 0, [], 1, 0, 0), (30, 133, 2, [1168], 3, 0, 1167), (0, 10, 0, [], 2, 0, 0), (2, 1, 0, [], 1, 0, 0), (0, 100, 0, [], 2, 0, 0), (4, 9, 0, [], 1, 0, 0), (4, 2, 0, [], 1, 0, 0), (22, 0, 0, [], 1, 0, 0), (0, 1, 0, [], 1, 0, 0), (34, 0, 0, [], 1, 0, 0)]
def bk_X7_does_208 : List me_I := [(2, 8, 0, [], 2, 0, 0), (14, 240, 0, [], 3, 0, 0), (2, 0, 2, [], 1, 0, 0), (19, 7, 8, [], 3, 0, 1051), (2, 7, 0, [], 2, 0, 0), (2, 5, 0, [], 2, 0, 0), (30, 165, 3, [1228], 3, 0, 1227), (14, 240, 0, [], 3, 0, 0), (2, 6, 0, [], 2, 0, 0), (7, 0, 0, [], 1, 0, 0), (1, 1, 0, [], 1, 0, 0), (1, 4, 0, [], 3, 0, 1200), (30, 126, 3, [1129], 3, 0, 1128), (14, 242, 1, [], 3, 0, 0)]
def bk_X7_does_240 : List me_I := [(0, 0, 0, [], 1, 0, 0), (34, 0, 0, [], 1, 0, 0)]
def bk_X7_does_242 : List me_I := [(2, 0, 2, [], 1, 0, 0), (19, 7, 8, [], 3, 0, 1051), (2, 7, 0, [], 2, 0, 0), (0, 3, 0, [], 1, 0, 0), (2, 5, 0, [], 2, 0, 0), (4, 0, 0, [], 1, 0, 0), (0, 1, 0, [], 1, 0, 0), (4, 1, 0, [], 1, 0, 0), (30, 133, 2, [1168], 3, 0, 1167), (2, 6, 0, [], 2, 0, 0), (22, 0, 0, [], 1, 0, 0), (0, 1, 0, [], 1, 0, 0), (34, 0, 0, [], 1, 0, 0)]
def bk_X7_does_262 : List me_I := [(2, 8, 0, [], 2, 0, 0), (14, 286, 0, [], 3, 0, 0), (2, 5, 0, [], 2, 0, 0), (7, 0, 0, [], 1, 0, 0), (1, 1, 0, [], 1, 0, 0), (1, 4, 0, [], 3, 0, 1200), (30, 126, 3, [1129], 3, 0, 1128), (14, 286, 0, [], 3, 0, 0), (2, 6, 0, [], 2, 0, 0), (0, 1, 0, [], 1, 0, 0), (15, 288, 5, [], 3, 0, 0)]
def bk_X7_does_286 : List me_I := [(0, 0, 0, [], 1, 0, 0), (34, 0, 0, [], 1, 0, 0)]
def bk_X7_does_288 : List me_I := [(2, 0, 2, [], 1, 0, 0), (19, 7, 8, [], 3, 0, 1051), (2, 7, 0, [], 2, 0, 0), (0, 2, 0, [], 1, 0, 0), (30, 133, 2, [1168], 3, 0, 1167), (2, 0, 2, [], 1, 0, 0), (19, 7, 8, [], 3, 0, 1051), (2, 7, 0, [], 2, 0, 0), (0, 2, 0, [], 1, 0, 0), (30, 133, 2, [1168], 3, 0, 1167), (21, 0, 0, [], 1, 0, 0), (2, 5, 0, [], 2, 0, 0), (0, 1, 0, [], 1, 0, 0), (4, 1, 0, [], 1, 0, 0), (2, 6, 0, [], 2, 0, 0), (0, 1, 0, [], 1, 0, 0), (15, 323, 1, [], 3, 0, 0), (0, 1, 0, [], 1, 0, 0), (16, 324, 0, [], 3, 0, 0)]
def bk_X7_does_323 : List me_I := [(0, 0, 0, [], 1, 0, 0)]
def bk_X7_does_324 : List me_I := [(30, 142, 3, [1343], 3, 0, 1342), (22, 0, 0, [], 1, 0, 0), (0, 1, 0, [], 1, 0, 0), (34, 0, 0, [], 1, 0, 0)]
def bk_X7_does_330 : List me_I := [(2, 3, 0, [], 1, 0, 0), (30, 163, 1, [1244], 3, 0, 1243), (14, 354, 0, [], 3, 0, 0), (2, 9, 0, [], 2, 0, 0), (2, 0, 2, [], 1, 0, 0), (19, 7, 8, [], 3, 0, 1051), (0, 0, 0, [], 1, 0, 0), (21, 0, 0, [], 1, 0, 0), (15, 354, 3, [], 3, 0, 0), (2, 6, 0, [], 2, 0, 0), (0, 1, 0, [], 1, 0, 0), (15, 356, 5, [], 3, 0, 0)]
def bk_X7_does_354 : List me_I := [(0, 0, 0, [], 1, 0, 0), (34, 0, 0, [], 1, 0, 0)]
def bk_X7_does_356 : List me_I := [(2, 0, 2, [], 1, 0, 0), (19, 7, 8, [], 3, 0, 1051), (0, 2, 0, [], 1, 0, 0), (2, 3, 0, [], 1, 0, 0), (4, 0, 0, [], 1, 0, 0), (2, 0, 2, [], 1, 0, 0), (19, 7, 8, [], 3, 0, 1051), (0, 2, 0, [], 1, 0, 0), (2, 3, 0, [], 1, 0, 0), (4, 0, 0, [], 1, 0, 0), (21, 0, 0, [], 1, 0, 0), (2, 9, 0, [], 2, 0, 0), (2, 6, 0, [], 2, 0, 0), (0, 1, 0, [], 1, 0, 0), (15, 383, 1, [], 3, 0, 0), (0, 1, 0, [], 1, 0, 0), (16, 384, 0, [], 3, 0, 0)]
def bk_X7_does_383 : List me_I := [(0, 0, 0, [], 1, 0, 0)]
def bk_X7_does_384 : List me_I := [(30, 142, 3, [1343], 3, 0, 1342), (22, 0, 0, [], 1, 0, 0), (0, 1, 0, [], 1, 0, 0), (34, 0, 0, [], 1, 0, 0)]
def bk_X7_does_390 : List me_I := [(2, 3, 0, [], 1, 0, 0), (30, 163, 1, [1244], 3, 0, 1243), (14, 402, 0, [], 3, 0, 0), (2, 4, 0, [], 2, 0, 0), (14, 404, 0, [], 3, 0, 0)]
def bk_X7_does_402 : List me_I := [(0, 0, 0, [], 1, 0, 0), (34, 0, 0, [], 1, 0, 0)]
def bk_X7_does_404 : List me_I := [(2, 0, 2, [], 1, 0, 0), (2, 0, 2, [], 1, 0, 0), (19, 7, 8, [], 3, 0, 1051), (2, 3, 0, [], 1, 0, 0), (0, 100, 0, [], 2, 0, 0), (29, 143, 3, [7, 1252, 42], 3, 0, 1250), (2, 0, 2, [], 1, 0, 0), (19, 7, 16, [], 3, 0, 1059), (2, 1, 0, [], 1, 0, 0), (0, 100, 0, [], 2, 0, 0), (4, 9, 0, [], 1, 0, 0), (15, 430, 2, [], 3, 0, 0), (0, 1, 0, [], 1, 0, 0), (16, 431, 0, [], 3, 0, 0)]
def bk_X7_does_430 : List me_I := [(0, 0, 0, [], 1, 0, 0)]
def bk_X7_does_431 : List me_I := [(34, 0, 0, [], 1, 0, 0)]
def bk_X7_does_432 : List me_I := [(2, 3, 0, [], 1, 0, 0), (30, 163, 1, [1244], 3, 0, 1243), (14, 441, 1, [], 3, 0, 0), (0, 0, 0, [], 1, 0, 0), (34, 0, 0, [], 1, 0, 0)]
def bk_X7_does_441 : List me_I := [(2, 0, 2, [], 1, 0, 0), (2, 0, 2, [], 1, 0, 0), (19, 7, 8, [], 3, 0, 1051), (2, 3, 0, [], 1, 0, 0), (0, 100, 0, [], 2, 0, 0), (29, 143, 3, [7, 1252, 42], 3, 0, 1250), (2, 0, 2, [], 1, 0, 0), (19, 7, 15, [], 3, 0, 1058), (2, 0, 2, [], 1, 0, 0), (19, 7, 16, [], 3, 0, 1059), (23, 0, 0, [], 1, 0, 0), (1, 1000000, 0, [], 3, 0, 1397), (2, 1, 0, [], 1, 0, 0), (0, 1000, 0, [], 3, 0, 0), (4, 9, 0, [], 1, 0, 0), (7, 0, 0, [], 1, 0, 0), (5, 2, 0, [], 1, 0, 0), (9, 0, 0, [], 1, 0, 0), (14, 479, 4, [], 3, 0, 0), (0, 1, 0, [], 1, 0, 0), (16, 480, 0, [], 3, 0, 0)]
def bk_X7_does_479 : List me_I := [(0, 0, 0, [], 1, 0, 0)]
def bk_X7_does_480 : List me_I := [(34, 0, 0, [], 1, 0, 0)]
def bk_X7_does_481 : List me_I := [(2, 3, 0, [], 1, 0, 0), (2, 0, 2, [], 1, 0, 0), (19, 7, 8, [], 3, 0, 1051), (0, 1, 0, [], 1, 0, 0), (21, 0, 0, [], 1, 0, 0), (15, 499, 3, [], 3, 0, 0), (2, 1, 0, [], 1, 0, 0), (0, 1000, 0, [], 3, 0, 0), (4, 9, 0, [], 1, 0, 0), (14, 501, 0, [], 3, 0, 0)]
def bk_X7_does_499 : List me_I := [(0, 0, 0, [], 1, 0, 0), (34, 0, 0, [], 1, 0, 0)]
def bk_X7_does_501 : List me_I := [(2, 0, 2, [], 1, 0, 0), (19, 7, 8, [], 3, 0, 1051), (2, 3, 0, [], 1, 0, 0), (30, 141, 2, [1358], 3, 0, 1357), (0, 1, 0, [], 1, 0, 0), (34, 0, 0, [], 1, 0, 0)]
def bk_X7_does_511 : List me_I := [(2, 3, 0, [], 1, 0, 0), (30, 163, 1, [1244], 3, 0, 1243), (14, 553, 0, [], 3, 0, 0), (2, 4, 0, [], 2, 0, 0), (30, 163, 1, [1244], 3, 0, 1243), (14, 553, 0, [], 3, 0, 0), (2, 1, 0, [], 1, 0, 0), (0, 100, 0, [], 2, 0, 0), (4, 9, 0, [], 1, 0, 0), (14, 553, 1, [], 3, 0, 0), (2, 0, 2, [], 1, 0, 0), (2, 0, 2, [], 1, 0, 0), (19, 7, 8, [], 3, 0, 1051), (2, 3, 0, [], 1, 0, 0), (2, 4, 0, [], 2, 0, 0), (29, 147, 3, [7, 1311, 46], 3, 0, 1309), (0, 9, 1, [], 2, 0, 0), (15, 553, 1, [], 3, 0, 0), (0, 1, 0, [], 1, 0, 0), (16, 554, 0, [], 3, 0, 0)]
def bk_X7_does_553 : List me_I := [(0, 0, 0, [], 1, 0, 0)]
def bk_X7_does_554 : List me_I := [(34, 0, 0, [], 1, 0, 0)]
def bk_X7_does_555 : List me_I := [(0, 0, 0, [], 1, 0, 0), (34, 0, 0, [], 1, 0, 0)]
def cd_X7_does : List (Nat × List me_I) := [(0, bk_X7_does_0), (63, bk_X7_does_63), (64, bk_X7_does_64), (128, bk_X7_does_128), (155, bk_X7_does_155), (157, bk_X7_does_157), (168, bk_X7_does_168), (186, bk_X7_does_186), (188, bk_X7_does_188), (208, bk_X7_does_208), (240, bk_X7_does_240), (242, bk_X7_does_242), (262, bk_X7_does_262), (286, bk_X7_does_286), (288, bk_X7_does_288), (323, bk_X7_does_323), (324, bk_X7_does_324), (330, bk_X7_does_330), (354, bk_X7_does_354), (356, bk_X7_does_356), (383, bk_X7_does_383), (384, bk_X7_does_384), (390, bk_X7_does_390), (402, bk_X7_does_402), (404, bk_X7_does_404), (430, bk_X7_does_430), (431, bk_X7_does_431), (432, bk_X7_does_432), (441, bk_X7_does_441), (479, bk_X7_does_479), (480, bk_X7_does_480), (481, bk_X7_does_481), (499, bk_X7_does_499), (501, bk_X7_does_501), (511, bk_X7_does_511), (553, bk_X7_does_553), (554, bk_X7_does_554), (555, bk_X7_does_555)]
theorem bq_X7_does_0 : me_bk cd_X7_does 0 = bk_X7_does_0 := rfl
theorem bq_X7_does_63 : me_bk cd_X7_does 63 = bk_X7_does_63 := rfl
theorem bq_X7_does_64 : me_bk cd_X7_does 64 = bk_X7_does_64 := rfl
theorem bq_X7_does_128 : me_bk cd_X7_does 128 = bk_X7_does_128 := rfl
theorem bq_X7_does_155 : me_bk cd_X7_does 155 = bk_X7_does_155 := rfl
theorem bq_X7_does_157 : me_bk cd_X7_does 157 = bk_X7_does_157 := rfl
theorem bq_X7_does_168 : me_bk cd_X7_does 168 = bk_X7_does_168 := rfl
theorem bq_X7_does_186 : me_bk cd_X7_does 186 = bk_X7_does_186 := rfl
theorem bq_X7_does_188 : me_bk cd_X7_does 188 = bk_X7_does_188 := rfl
theorem bq_X7_does_208 : me_bk cd_X7_does 208 = bk_X7_does_208 := rfl
theorem bq_X7_does_240 : me_bk cd_X7_does 240 = bk_X7_does_240 := rfl
theorem bq_X7_does_242 : me_bk cd_X7_does 242 = bk_X7_does_242 := rfl
theorem bq_X7_does_262 : me_bk cd_X7_does 262 = bk_X7_does_262 := rfl
theorem bq_X7_does_286 : me_bk cd_X7_does 286 = bk_X7_does_286 := rfl
theorem bq_X7_does_288 : me_bk cd_X7_does 288 = bk_X7_does_288 := rfl
theorem bq_X7_does_323 : me_bk cd_X7_does 323 = bk_X7_does_323 := rfl
theorem bq_X7_does_324 : me_bk cd_X7_does 324 = bk_X7_does_324 := rfl
theorem bq_X7_does_330 : me_bk cd_X7_does 330 = bk_X7_does_330 := rfl
theorem bq_X7_does_354 : me_bk cd_X7_does 354 = bk_X7_does_354 := rfl
theorem bq_X7_does_356 : me_bk cd_X7_does 356 = bk_X7_does_356 := rfl
theorem bq_X7_does_383 : me_bk cd_X7_does 383 = bk_X7_does_383 := rfl
theorem bq_X7_does_384 : me_bk cd_X7_does 384 = bk_X7_does_384 := rfl
theorem bq_X7_does_390 : me_bk cd_X7_does 390 = bk_X7_does_390 := rfl
theorem bq_X7_does_402 : me_bk cd_X7_does 402 = bk_X7_does_402 := rfl
theorem bq_X7_does_404 : me_bk cd_X7_does 404 = bk_X7_does_404 := rfl
theorem bq_X7_does_430 : me_bk cd_X7_does 430 = bk_X7_does_430 := rfl
theorem bq_X7_does_431 : me_bk cd_X7_does 431 = bk_X7_does_431 := rfl
theorem bq_X7_does_432 : me_bk cd_X7_does 432 = bk_X7_does_432 := rfl
theorem bq_X7_does_441 : me_bk cd_X7_does 441 = bk_X7_does_441 := rfl
theorem bq_X7_does_479 : me_bk cd_X7_does 479 = bk_X7_does_479 := rfl
theorem bq_X7_does_480 : me_bk cd_X7_does 480 = bk_X7_does_480 := rfl
theorem bq_X7_does_481 : me_bk cd_X7_does 481 = bk_X7_does_481 := rfl
theorem bq_X7_does_499 : me_bk cd_X7_does 499 = bk_X7_does_499 := rfl
theorem bq_X7_does_501 : me_bk cd_X7_does 501 = bk_X7_does_501 := rfl
theorem bq_X7_does_511 : me_bk cd_X7_does 511 = bk_X7_does_511 := rfl
theorem bq_X7_does_553 : me_bk cd_X7_does 553 = bk_X7_does_553 := rfl
theorem bq_X7_does_554 : me_bk cd_X7_does 554 = bk_X7_does_554 := rfl
theorem bq_X7_does_555 : me_bk cd_X7_does 555 = bk_X7_does_555 := rfl
set_option maxRecDepth 100000 in
theorem ck_X7_does : cd_X7_does.all (fun q => me_bck mt_nm RX7 cX7_does 10 (some .boolean) [126, 133, 139, 141, 142, 143, 147, 163, 165, 182] 0 q.2 q.1) = true := by decide +kernel
set_option maxRecDepth 100000 in
theorem cl_X7_does {l : Launch} {R : Room} {fr lo mc : Nat} {sp : me_P} (h : me_M l yX7_does (.code yX7_does cX7_does 10 (some .boolean)) fr lo mc sp) (h1 : fr + 1 ≤ R.frames) (h2 : lo + 29 ≤ R.locals) : me_cal mt_nm l R 193 (mc, sp) := ⟨cX7_does, 10, (some .boolean), fr, lo, h, List.mem_of_getElem? (i := 1396) (by rfl), h1, by omega, List.mem_of_getElem? (i := 60) (by rfl), by decide, by decide⟩
def bk_X7_runScript_0 : List me_I := [(2, 1, 0, [], 1, 0, 0), (7, 0, 0, [], 1, 0, 0), (1, 1, 0, [], 1, 0, 0), (1, 3, 0, [], 3, 0, 1383), (30, 126, 3, [1129], 3, 0, 1128), (3, 4, 0, [], 2, 0, 0), (2, 0, 2, [], 1, 0, 0), (2, 4, 0, [], 2, 0, 0), (14, 46, 0, [], 3, 0, 0), (2, 2, 1, [], 1, 0, 0), (1, 0, 0, [], 1, 0, 0), (2, 4, 0, [], 2, 0, 0), (14, 30, 0, [], 3, 0, 0), (0, 5, 0, [], 1, 0, 0), (2, 1, 0, [], 1, 0, 0), (4, 2, 0, [], 1, 0, 0), (16, 31, 0, [], 3, 0, 0)]
def bk_X7_runScript_30 : List me_I := [(0, 0, 0, [], 1, 0, 0)]
def bk_X7_runScript_31 : List me_I := [(30, 130, 1, [1385], 3, 0, 1384), (1, 1, 0, [], 1, 0, 0), (5, 1, 0, [], 1, 0, 0), (30, 126, 3, [1129], 3, 0, 1128), (14, 46, 0, [], 3, 0, 0), (0, 0, 0, [], 1, 0, 0), (16, 47, 0, [], 3, 0, 0)]
def bk_X7_runScript_46 : List me_I := [(0, 1, 0, [], 1, 0, 0)]
def bk_X7_runScript_47 : List me_I := [(29, 125, 1, [7, 1133, 29], 3, 0, 1131), (14, 55, 0, [], 3, 0, 0), (0, 0, 0, [], 1, 0, 0), (32, 0, 0, [], 1, 0, 0)]
def bk_X7_runScript_55 : List me_I := [(2, 0, 2, [], 1, 0, 0), (29, 132, 0, [7, 1390, 49], 3, 0, 1388), (0, 0, 0, [], 1, 0, 0), (3, 5, 0, [], 2, 0, 0)]
def bk_X7_runScript_62 : List me_I := [(2, 5, 0, [], 2, 0, 0), (2, 1, 0, [], 1, 0, 0), (15, 102, 3, [], 3, 0, 0), (2, 0, 2, [], 1, 0, 0), (2, 2, 1, [], 1, 0, 0), (0, 5, 0, [], 1, 0, 0), (2, 1, 0, [], 1, 0, 0), (0, 1, 0, [], 1, 0, 0), (4, 1, 0, [], 1, 0, 0), (2, 5, 0, [], 2, 0, 0), (4, 1, 0, [], 1, 0, 0), (4, 2, 0, [], 1, 0, 0), (30, 130, 1, [1385], 3, 0, 1384), (5, 8, 0, [], 1, 0, 0), (1, 100000, 0, [], 3, 0, 1392), (5, 9, 0, [], 1, 0, 0), (8, 0, 0, [], 1, 0, 0), (29, 193, 1, [7, 1395, 50], 3, 0, 1393), (14, 96, 1, [], 3, 0, 0), (2, 5, 0, [], 2, 0, 0), (32, 0, 0, [], 1, 0, 0)]
def bk_X7_runScript_96 : List me_I := [(13, 5, 1, [], 3, 0, 0), (16, 62, 0, [], 3, 0, 0)]
def bk_X7_runScript_102 : List me_I := [(0, 9, 1, [], 2, 0, 0), (32, 0, 0, [], 1, 0, 0)]
def cd_X7_runScript : List (Nat × List me_I) := [(0, bk_X7_runScript_0), (30, bk_X7_runScript_30), (31, bk_X7_runScript_31), (46, bk_X7_runScript_46), (47, bk_X7_runScript_47), (55, bk_X7_runScript_55), (62, bk_X7_runScript_62), (96, bk_X7_runScript_96), (102, bk_X7_runScript_102)]
theorem bq_X7_runScript_0 : me_bk cd_X7_runScript 0 = bk_X7_runScript_0 := rfl
theorem bq_X7_runScript_30 : me_bk cd_X7_runScript 30 = bk_X7_runScript_30 := rfl
theorem bq_X7_runScript_31 : me_bk cd_X7_runScript 31 = bk_X7_runScript_31 := rfl
theorem bq_X7_runScript_46 : me_bk cd_X7_runScript 46 = bk_X7_runScript_46 := rfl
theorem bq_X7_runScript_47 : me_bk cd_X7_runScript 47 = bk_X7_runScript_47 := rfl
theorem bq_X7_runScript_55 : me_bk cd_X7_runScript 55 = bk_X7_runScript_55 := rfl
theorem bq_X7_runScript_62 : me_bk cd_X7_runScript 62 = bk_X7_runScript_62 := rfl
theorem bq_X7_runScript_96 : me_bk cd_X7_runScript 96 = bk_X7_runScript_96 := rfl
theorem bq_X7_runScript_102 : me_bk cd_X7_runScript 102 = bk_X7_runScript_102 := rfl
set_option maxRecDepth 100000 in
theorem ck_X7_runScript : cd_X7_runScript.all (fun q => me_bck mt_nm RX7 cX7_runScript 6 (some .int) [125, 126, 130, 132, 193] 0 q.2 q.1) = true := by decide +kernel
set_option maxRecDepth 100000 in
theorem cl_X7_runScript {l : Launch} {R : Room} {fr lo mc : Nat} {sp : me_P} (h : me_M l yX7_runScript (.code yX7_runScript cX7_runScript 6 (some .int)) fr lo mc sp) (h1 : fr + 1 ≤ R.frames) (h2 : lo + 25 ≤ R.locals) : me_cal mt_nm l R 194 (mc, sp) := ⟨cX7_runScript, 6, (some .int), fr, lo, h, List.mem_of_getElem? (i := 1382) (by rfl), h1, by omega, List.mem_of_getElem? (i := 60) (by rfl), by decide, by decide⟩
def bk_X7_endOf_0 : List me_I := [(2, 0, 2, [], 1, 0, 0), (2, 1, 2, [], 1, 0, 0), (2, 2, 0, [], 1, 0, 0), (0, 100, 0, [], 2, 0, 0), (29, 143, 3, [7, 1252, 42], 3, 0, 1250), (2, 0, 2, [], 1, 0, 0), (19, 7, 15, [], 3, 0, 1058), (2, 0, 2, [], 1, 0, 0), (19, 7, 16, [], 3, 0, 1059), (23, 0, 0, [], 1, 0, 0), (33, 0, 0, [], 1, 0, 0)]
def cd_X7_endOf : List (Nat × List me_I) := [(0, bk_X7_endOf_0)]
theorem bq_X7_endOf_0 : me_bk cd_X7_endOf 0 = bk_X7_endOf_0 := rfl
set_option maxRecDepth 100000 in
theorem ck_X7_endOf : cd_X7_endOf.all (fun q => me_bck mt_nm RX7 cX7_endOf 3 (some .long) [143] 0 q.2 q.1) = true := by decide +kernel
set_option maxRecDepth 100000 in
theorem cl_X7_endOf {l : Launch} {R : Room} {fr lo mc : Nat} {sp : me_P} (h : me_M l yX7_endOf (.code yX7_endOf cX7_endOf 3 (some .long)) fr lo mc sp) (h1 : fr + 1 ≤ R.frames) (h2 : lo + 22 ≤ R.locals) : me_cal mt_nm l R 195 (mc, sp) := ⟨cX7_endOf, 3, (some .long), fr, lo, h, List.mem_of_getElem? (i := 1408) (by rfl), h1, by omega, List.mem_of_getElem? (i := 60) (by rfl), by decide, by decide⟩
def bk_X7_simulate_0 : List me_I := [(2, 0, 2, [], 1, 0, 0), (2, 3, 0, [], 1, 0, 0), (7, 0, 0, [], 1, 0, 0), (1, 1, 0, [], 1, 0, 0), (1, 50, 0, [], 3, 0, 1402), (30, 126, 3, [1129], 3, 0, 1128), (14, 17, 0, [], 3, 0, 0), (0, 0, 0, [], 1, 0, 0), (16, 18, 0, [], 3, 0, 0)]
def bk_X7_simulate_17 : List me_I := [(0, 1, 0, [], 1, 0, 0)]
def bk_X7_simulate_18 : List me_I := [(29, 125, 1, [7, 1133, 29], 3, 0, 1131), (14, 26, 0, [], 3, 0, 0), (0, 0, 0, [], 1, 0, 0), (32, 0, 0, [], 1, 0, 0)]
def bk_X7_simulate_26 : List me_I := [(2, 1, 1, [], 1, 0, 0), (3, 4, 1, [], 2, 0, 0), (0, 0, 0, [], 1, 0, 0), (3, 6, 0, [], 2, 0, 0), (0, 0, 0, [], 1, 0, 0), (3, 7, 0, [], 2, 0, 0)]
def bk_X7_simulate_35 : List me_I := [(2, 7, 0, [], 2, 0, 0), (2, 3, 0, [], 1, 0, 0), (15, 171, 3, [], 3, 0, 0), (2, 0, 2, [], 1, 0, 0), (29, 132, 0, [7, 1390, 49], 3, 0, 1388), (0, 0, 0, [], 1, 0, 0), (3, 8, 0, [], 2, 0, 0)]
def bk_X7_simulate_48 : List me_I := [(2, 8, 0, [], 2, 0, 0), (2, 0, 2, [], 1, 0, 0), (19, 7, 8, [], 3, 0, 1051), (0, 0, 0, [], 1, 0, 0), (21, 0, 0, [], 1, 0, 0), (15, 114, 3, [], 3, 0, 0), (2, 4, 1, [], 2, 0, 0), (1, 6364136223846793005, 0, [], 3, 0, 1403), (5, 2, 0, [], 1, 0, 0), (1, 1442695040888963407, 0, [], 3, 0, 1404), (5, 0, 0, [], 1, 0, 0), (3, 4, 1, [], 2, 0, 0), (2, 4, 1, [], 2, 0, 0), (0, 33, 0, [], 2, 0, 0), (6, 1, 0, [], 1, 0, 0), (8, 0, 0, [], 1, 0, 0), (3, 9, 0, [], 2, 0, 0), (2, 9, 0, [], 2, 0, 0), (0, 8, 0, [], 2, 0, 0), (4, 9, 0, [], 1, 0, 0), (14, 108, 1, [], 3, 0, 0), (2, 0, 2, [], 1, 0, 0), (19, 7, 8, [], 3, 0, 1051), (0, 2, 0, [], 1, 0, 0), (2, 9, 0, [], 2, 0, 0), (0, 8, 0, [], 2, 0, 0), (4, 8, 0, [], 1, 0, 0), (0, 3, 0, [], 1, 0, 0), (4, 9, 0, [], 1, 0, 0), (4, 0, 0, [], 1, 0, 0), (11, 0, 0, [], 1, 0, 0), (21, 0, 0, [], 1, 0, 0), (0, 1, 0, [], 1, 0, 0), (2, 8, 0, [], 2, 0, 0), (4, 6, 0, [], 1, 0, 0), (4, 5, 0, [], 1, 0, 0), (22, 0, 0, [], 1, 0, 0)]
def bk_X7_simulate_108 : List me_I := [(13, 8, 1, [], 3, 0, 0), (16, 48, 0, [], 3, 0, 0)]
def bk_X7_simulate_114 : List me_I := [(2, 0, 2, [], 1, 0, 0), (2, 0, 2, [], 1, 0, 0), (19, 7, 8, [], 3, 0, 1051), (0, 0, 0, [], 1, 0, 0), (29, 195, 2, [7, 1407, 51], 3, 0, 1405), (3, 8, 1, [], 2, 0, 0), (2, 6, 0, [], 2, 0, 0), (2, 0, 2, [], 1, 0, 0), (2, 0, 2, [], 1, 0, 0), (19, 7, 8, [], 3, 0, 1051), (0, 1, 0, [], 1, 0, 0), (29, 195, 2, [7, 1407, 51], 3, 0, 1405), (2, 8, 1, [], 2, 0, 0), (9, 0, 0, [], 1, 0, 0), (14, 161, 1, [], 3, 0, 0), (2, 0, 2, [], 1, 0, 0), (2, 0, 2, [], 1, 0, 0), (19, 7, 8, [], 3, 0, 1051), (0, 2, 0, [], 1, 0, 0), (29, 195, 2, [7, 1407, 51], 3, 0, 1405), (2, 8, 1, [], 2, 0, 0), (9, 0, 0, [], 1, 0, 0), (14, 161, 1, [], 3, 0, 0), (0, 1, 0, [], 1, 0, 0), (16, 162, 0, [], 3, 0, 0)]
def bk_X7_simulate_161 : List me_I := [(0, 0, 0, [], 1, 0, 0)]
def bk_X7_simulate_162 : List me_I := [(4, 0, 0, [], 1, 0, 0), (3, 6, 0, [], 2, 0, 0), (13, 7, 1, [], 3, 0, 0), (16, 35, 0, [], 3, 0, 0)]
def bk_X7_simulate_171 : List me_I := [(2, 6, 0, [], 2, 0, 0), (32, 0, 0, [], 1, 0, 0)]
def cd_X7_simulate : List (Nat × List me_I) := [(0, bk_X7_simulate_0), (17, bk_X7_simulate_17), (18, bk_X7_simulate_18), (26, bk_X7_simulate_26), (35, bk_X7_simulate_35), (48, bk_X7_simulate_48), (108, bk_X7_simulate_108), (114, bk_X7_simulate_114), (161, bk_X7_simulate_161), (162, bk_X7_simulate_162), (171, bk_X7_simulate_171)]
theorem bq_X7_simulate_0 : me_bk cd_X7_simulate 0 = bk_X7_simulate_0 := rfl
theorem bq_X7_simulate_17 : me_bk cd_X7_simulate 17 = bk_X7_simulate_17 := rfl
theorem bq_X7_simulate_18 : me_bk cd_X7_simulate 18 = bk_X7_simulate_18 := rfl
theorem bq_X7_simulate_26 : me_bk cd_X7_simulate 26 = bk_X7_simulate_26 := rfl
theorem bq_X7_simulate_35 : me_bk cd_X7_simulate 35 = bk_X7_simulate_35 := rfl
theorem bq_X7_simulate_48 : me_bk cd_X7_simulate 48 = bk_X7_simulate_48 := rfl
theorem bq_X7_simulate_108 : me_bk cd_X7_simulate 108 = bk_X7_simulate_108 := rfl
theorem bq_X7_simulate_114 : me_bk cd_X7_simulate 114 = bk_X7_simulate_114 := rfl
theorem bq_X7_simulate_161 : me_bk cd_X7_simulate 161 = bk_X7_simulate_161 := rfl
theorem bq_X7_simulate_162 : me_bk cd_X7_simulate 162 = bk_X7_simulate_162 := rfl
theorem bq_X7_simulate_171 : me_bk cd_X7_simulate 171 = bk_X7_simulate_171 := rfl
set_option maxRecDepth 100000 in
theorem ck_X7_simulate : cd_X7_simulate.all (fun q => me_bck mt_nm RX7 cX7_simulate 10 (some .int) [125, 126, 132, 195] 0 q.2 q.1) = true := by decide +kernel
set_option maxRecDepth 100000 in
theorem cl_X7_simulate {l : Launch} {R : Room} {fr lo mc : Nat} {sp : me_P} (h : me_M l yX7_simulate (.code yX7_simulate cX7_simulate 10 (some .int)) fr lo mc sp) (h1 : fr + 1 ≤ R.frames) (h2 : lo + 29 ≤ R.locals) : me_cal mt_nm l R 196 (mc, sp) := ⟨cX7_simulate, 10, (some .int), fr, lo, h, List.mem_of_getElem? (i := 1401) (by rfl), h1, by omega, List.mem_of_getElem? (i := 60) (by rfl), by decide, by decide⟩
def bk_X7_save_0 : List me_I := [(2, 0, 2, [], 1, 0, 0), (2, 1, 0, [], 1, 0, 0), (7, 0, 0, [], 1, 0, 0), (1, 0, 0, [], 1, 0, 0), (1, 1, 0, [], 1, 0, 0), (30, 126, 3, [1129], 3, 0, 1128), (14, 15, 0, [], 3, 0, 0), (0, 0, 0, [], 1, 0, 0), (16, 16, 0, [], 3, 0, 0)]
def bk_X7_save_15 : List me_I := [(0, 1, 0, [], 1, 0, 0)]
def bk_X7_save_16 : List me_I := [(29, 125, 1, [7, 1133, 29], 3, 0, 1131), (14, 24, 0, [], 3, 0, 0), (0, 0, 0, [], 1, 0, 0), (32, 0, 0, [], 1, 0, 0)]
def bk_X7_save_24 : List me_I := [(2, 0, 2, [], 1, 0, 0), (19, 7, 7, [], 3, 0, 1050), (0, 0, 0, [], 1, 0, 0), (2, 0, 2, [], 1, 0, 0), (19, 7, 11, [], 3, 0, 1054), (0, 305, 0, [], 3, 0, 0), (2, 1, 0, [], 1, 0, 0), (4, 2, 0, [], 1, 0, 0), (0, 305, 0, [], 3, 0, 0), (30, 129, 5, [1194], 3, 0, 1193), (2, 0, 2, [], 1, 0, 0), (19, 7, 12, [], 3, 0, 1055), (2, 1, 0, [], 1, 0, 0), (0, 1, 0, [], 1, 0, 0), (26, 0, 0, [], 1, 0, 0), (2, 0, 2, [], 1, 0, 0), (19, 7, 7, [], 3, 0, 1050), (0, 0, 0, [], 1, 0, 0), (21, 0, 0, [], 1, 0, 0), (32, 0, 0, [], 1, 0, 0)]
def cd_X7_save : List (Nat × List me_I) := [(0, bk_X7_save_0), (15, bk_X7_save_15), (16, bk_X7_save_16), (24, bk_X7_save_24)]
theorem bq_X7_save_0 : me_bk cd_X7_save 0 = bk_X7_save_0 := rfl
theorem bq_X7_save_15 : me_bk cd_X7_save 15 = bk_X7_save_15 := rfl
theorem bq_X7_save_16 : me_bk cd_X7_save 16 = bk_X7_save_16 := rfl
theorem bq_X7_save_24 : me_bk cd_X7_save 24 = bk_X7_save_24 := rfl
set_option maxRecDepth 100000 in
theorem ck_X7_save : cd_X7_save.all (fun q => me_bck mt_nm RX7 cX7_save 2 (some .int) [125, 126, 129] 0 q.2 q.1) = true := by decide +kernel
set_option maxRecDepth 100000 in
theorem cl_X7_save {l : Launch} {R : Room} {fr lo mc : Nat} {sp : me_P} (h : me_M l yX7_save (.code yX7_save cX7_save 2 (some .int)) fr lo mc sp) (h1 : fr + 1 ≤ R.frames) (h2 : lo + 21 ≤ R.locals) : me_cal mt_nm l R 197 (mc, sp) := ⟨cX7_save, 2, (some .int), fr, lo, h, List.mem_of_getElem? (i := 1412) (by rfl), h1, by omega, List.mem_of_getElem? (i := 60) (by rfl), by decide, by decide⟩
def bk_X7_restore_0 : List me_I := [(2, 0, 2, [], 1, 0, 0), (2, 1, 0, [], 1, 0, 0), (7, 0, 0, [], 1, 0, 0), (1, 0, 0, [], 1, 0, 0), (1, 1, 0, [], 1, 0, 0), (30, 126, 3, [1129], 3, 0, 1128), (14, 15, 1, [], 3, 0, 0), (0, 1, 0, [], 1, 0, 0), (16, 29, 0, [], 3, 0, 0)]
def bk_X7_restore_15 : List me_I := [(2, 0, 2, [], 1, 0, 0), (19, 7, 12, [], 3, 0, 1055), (2, 1, 0, [], 1, 0, 0), (25, 0, 0, [], 1, 0, 0), (14, 28, 0, [], 3, 0, 0), (0, 0, 0, [], 1, 0, 0), (16, 29, 0, [], 3, 0, 0)]
def bk_X7_restore_28 : List me_I := [(0, 2, 0, [], 1, 0, 0)]
def bk_X7_restore_29 : List me_I := [(29, 125, 1, [7, 1133, 29], 3, 0, 1131), (14, 37, 0, [], 3, 0, 0), (0, 0, 0, [], 1, 0, 0), (32, 0, 0, [], 1, 0, 0)]
def bk_X7_restore_37 : List me_I := [(2, 0, 2, [], 1, 0, 0), (19, 7, 11, [], 3, 0, 1054), (0, 305, 0, [], 3, 0, 0), (2, 1, 0, [], 1, 0, 0), (4, 2, 0, [], 1, 0, 0), (2, 0, 2, [], 1, 0, 0), (19, 7, 7, [], 3, 0, 1050), (0, 0, 0, [], 1, 0, 0), (0, 305, 0, [], 3, 0, 0), (30, 129, 5, [1194], 3, 0, 1193), (2, 0, 2, [], 1, 0, 0), (0, 0, 0, [], 1, 0, 0), (20, 7, 10, [], 3, 0, 1053), (2, 0, 2, [], 1, 0, 0), (19, 7, 7, [], 3, 0, 1050), (0, 0, 0, [], 1, 0, 0), (21, 0, 0, [], 1, 0, 0), (32, 0, 0, [], 1, 0, 0)]
def cd_X7_restore : List (Nat × List me_I) := [(0, bk_X7_restore_0), (15, bk_X7_restore_15), (28, bk_X7_restore_28), (29, bk_X7_restore_29), (37, bk_X7_restore_37)]
theorem bq_X7_restore_0 : me_bk cd_X7_restore 0 = bk_X7_restore_0 := rfl
theorem bq_X7_restore_15 : me_bk cd_X7_restore 15 = bk_X7_restore_15 := rfl
theorem bq_X7_restore_28 : me_bk cd_X7_restore 28 = bk_X7_restore_28 := rfl
theorem bq_X7_restore_29 : me_bk cd_X7_restore 29 = bk_X7_restore_29 := rfl
theorem bq_X7_restore_37 : me_bk cd_X7_restore 37 = bk_X7_restore_37 := rfl
set_option maxRecDepth 100000 in
theorem ck_X7_restore : cd_X7_restore.all (fun q => me_bck mt_nm RX7 cX7_restore 2 (some .int) [125, 126, 129] 0 q.2 q.1) = true := by decide +kernel
set_option maxRecDepth 100000 in
theorem cl_X7_restore {l : Launch} {R : Room} {fr lo mc : Nat} {sp : me_P} (h : me_M l yX7_restore (.code yX7_restore cX7_restore 2 (some .int)) fr lo mc sp) (h1 : fr + 1 ≤ R.frames) (h2 : lo + 21 ≤ R.locals) : me_cal mt_nm l R 198 (mc, sp) := ⟨cX7_restore, 2, (some .int), fr, lo, h, List.mem_of_getElem? (i := 1416) (by rfl), h1, by omega, List.mem_of_getElem? (i := 60) (by rfl), by decide, by decide⟩
