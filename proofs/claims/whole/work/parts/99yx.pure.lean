/-! PURE 99yx: the two constructors, op by op (by gen_start.py). -/
def A_t : List (Nat × TT) := (58, .inr (.int, 81)) :: (57, .inr (.int, 61)) :: (56, .inr (.int, 1464)) :: (55, .inr (.int, 61)) :: (54, .inl 1) :: (53, .inr (.int, 366)) :: (52, .inr (.int, 366)) :: (51, .inr (.int, 1464)) :: (50, .inr (.int, 6)) :: (49, .inr (.int, 144)) :: (48, .inr (.int, 24)) :: (47, .inr (.int, 24)) :: (46, .inr (.int, 24)) :: (45, .inr (.int, 24)) :: (44, .inl 4) :: (43, .inr (.int, 8)) :: (42, .inr (.int, 256)) :: (41, .inr (.int, 64)) :: (40, .inr (.int, 8)) :: (39, .inl 7) :: (38, .inr (.int, 8)) :: (37, .inr (.int, 8)) :: (36, .inr (.int, 8)) :: (35, .inr (.int, 8)) :: (34, .inl 0) :: (33, .inr ((.object RX6), 4)) :: (32, .inr (.int, 10)) :: (31, .inr (.int, 10)) :: (30, .inr (.int, 8)) :: (29, .inr (.int, 8)) :: (28, .inr (.int, 8)) :: (27, .inr (.int, 8)) :: (12, .inl 9) :: (13, .inr (.object RX5, 8)) :: (14, .inr (.int, 5)) :: (15, .inr (.int, 5)) :: (16, .inr (.int, 5)) :: (17, .inr (.int, 5)) :: (18, .inr (.int, 5)) :: (19, .inl 5) :: (20, .inl 5) :: (21, .inl 5) :: (22, .inl 5) :: (23, .inl 5) :: (24, .inl 5) :: (25, .inl 5) :: (26, .inl 5) :: (11, .inl 0) :: (10, .inl 6) :: (9, .inr ((.object RX2), 6)) :: (8, .inr (.int, 400)) :: (7, .inl 3) :: (6, .inl 10) :: (5, .inr (.int, 401)) :: (4, .inr (.int, 401)) :: (3, .inr (.int, 401)) :: (2, .inr (.byte, 400)) :: (1, .inl 8) :: (0, .inl 11) :: []
def A_r : List (Nat × Nat × Option Nat) := (0, 11, some 58) :: (0, 10, some 54) :: (54, 2, some 57) :: (54, 1, some 56) :: (54, 0, some 55) :: (0, 9, some 44) :: (44, 8, some 53) :: (44, 7, some 52) :: (44, 6, some 51) :: (44, 5, some 50) :: (44, 4, some 49) :: (44, 3, some 48) :: (44, 2, some 47) :: (44, 1, some 46) :: (44, 0, some 45) :: (0, 8, some 39) :: (39, 4, some 43) :: (39, 3, some 42) :: (39, 2, some 41) :: (39, 0, some 40) :: (0, 7, some 34) :: (34, 0, some 12) :: (34, 9, some 38) :: (34, 8, some 37) :: (34, 7, some 36) :: (34, 6, some 35) :: (34, 1, none) :: (0, 6, some 33) :: (33, 0, none) :: (33, 1, none) :: (33, 2, none) :: (33, 3, none) :: (0, 5, some 10) :: (10, 0, some 11) :: (10, 6, some 32) :: (10, 5, some 31) :: (11, 0, some 12) :: (11, 9, some 30) :: (11, 8, some 29) :: (11, 7, some 28) :: (11, 6, some 27) :: (11, 1, none) :: (12, 6, some 13) :: (12, 8, some 14) :: (12, 9, some 15) :: (12, 11, some 16) :: (12, 12, some 17) :: (12, 13, some 18) :: (13, 0, some 19) :: (13, 1, some 20) :: (13, 2, some 21) :: (13, 3, some 22) :: (13, 4, some 23) :: (13, 5, some 24) :: (13, 6, some 25) :: (13, 7, some 26) :: (0, 3, some 9) :: (0, 2, some 7) :: (7, 0, some 1) :: (7, 1, some 8) :: (0, 1, some 6) :: (6, 0, some 1) :: (0, 0, some 1) :: (1, 4, some 5) :: (1, 3, some 4) :: (1, 2, some 3) :: (1, 0, some 2) :: []
def A_i : List (Nat × Nat × Int32) := (0, 12, 0) :: (54, 3, 0) :: (39, 6, 0) :: (39, 5, 0) :: (39, 1, 0) :: (34, 5, 0) :: (34, 4, 0) :: (34, 3, 0) :: (34, 2, 0) :: (10, 4, 0) :: (10, 3, 0) :: (10, 2, -1) :: (10, 1, 0) :: (11, 5, 0) :: (11, 4, 0) :: (11, 3, 0) :: (11, 2, 0) :: (0, 4, 0) :: (7, 3, 0) :: (7, 2, 0) :: (6, 1, 0) :: (1, 9, 0) :: (1, 8, 0) :: (1, 7, 257) :: (1, 6, 0) :: (1, 5, -1) :: (1, 1, 0) :: []
def B_t (t : List (Nat × TT)) : List (Nat × TT) := (121, .inr (.boolean, 4)) :: (120, .inr (.int, 6250)) :: (119, .inr (.boolean, 24)) :: (118, .inr (.int, 1464)) :: (117, .inr (.int, 7)) :: (116, .inr (.int, 7)) :: (115, .inr (.int, 81)) :: (114, .inr (.int, 8)) :: (113, .inr (.int, 24)) :: (112, .inr (.int, 24)) :: (111, .inr (.int, 24)) :: (110, .inr (.int, 144)) :: (109, .inr (.int, 1464)) :: (108, .inr (.int, 9150)) :: (107, .inr (.int, 8)) :: (106, .inr (.int, 256)) :: (105, .inr (.int, 8)) :: (104, .inr (.int, 8)) :: (103, .inr (.int, 1)) :: (102, .inr (.int, 1020)) :: (101, .inr (.int, 6)) :: (100, .inr (.long, 300)) :: (99, .inr (.long, 13)) :: (98, .inr (.int, 402)) :: (97, .inr (.int, 72)) :: (96, .inr (.int, 72)) :: (95, .inr (.int, 72)) :: (94, .inr (.int, 6)) :: (93, .inr (.int, 1800)) :: (92, .inr (.int, 1800)) :: (91, .inr (.byte, 400)) :: (90, .inr (.int, 5)) :: (89, .inr (.int, 5)) :: (88, .inr (.int, 5)) :: (87, .inr (.int, 5)) :: (86, .inr (.int, 5)) :: (85, .inr (.int, 8)) :: (84, .inr (.int, 8)) :: (83, .inr (.int, 8)) :: (82, .inr (.int, 8)) :: (81, .inr (.int, 8)) :: (80, .inr (.int, 8)) :: (79, .inr (.int, 10)) :: (78, .inr (.int, 10)) :: (77, .inr (.int, 10)) :: (76, .inr (.int, 5)) :: (75, .inr (.int, 5)) :: (74, .inr (.int, 5)) :: (73, .inr (.int, 5)) :: (72, .inr (.int, 5)) :: (71, .inr (.int, 8)) :: (70, .inr (.int, 8)) :: (69, .inr (.int, 8)) :: (68, .inr (.int, 8)) :: (67, .inr (.int, 8)) :: (66, .inr (.int, 8)) :: (65, .inr (.int, 8)) :: (64, .inr (.int, 8)) :: (63, .inr (.int, 8)) :: (62, .inr (.int, 8)) :: (61, .inr (.int, 7)) :: (60, .inr (.int, 17)) :: (59, .inl 12) :: t
def B_r (r : List (Nat × Nat × Option Nat)) : List (Nat × Nat × Option Nat) := (59, 82, some 121) :: (59, 81, some 120) :: (59, 80, some 119) :: (59, 79, some 118) :: (59, 74, some 117) :: (59, 73, some 116) :: (59, 72, some 115) :: (59, 71, some 114) :: (59, 70, some 113) :: (59, 69, some 112) :: (59, 68, some 111) :: (59, 67, some 110) :: (59, 66, some 109) :: (59, 65, some 108) :: (59, 61, some 107) :: (59, 60, some 106) :: (59, 59, some 105) :: (59, 58, some 104) :: (59, 54, some 103) :: (59, 53, some 102) :: (59, 52, some 101) :: (59, 51, some 100) :: (59, 50, some 99) :: (59, 49, some 98) :: (59, 48, some 97) :: (59, 47, some 96) :: (59, 46, some 95) :: (59, 45, some 94) :: (59, 44, some 93) :: (59, 43, some 92) :: (59, 42, some 91) :: (59, 31, some 90) :: (59, 30, some 89) :: (59, 29, some 88) :: (59, 28, some 87) :: (59, 27, some 86) :: (59, 26, some 85) :: (59, 25, some 84) :: (59, 24, some 83) :: (59, 23, some 82) :: (59, 22, some 81) :: (59, 21, some 80) :: (59, 20, some 79) :: (59, 19, some 78) :: (59, 18, some 77) :: (59, 17, some 76) :: (59, 16, some 75) :: (59, 15, some 74) :: (59, 14, some 73) :: (59, 13, some 72) :: (59, 12, some 71) :: (59, 11, some 70) :: (59, 10, some 69) :: (59, 9, some 68) :: (59, 8, some 67) :: (59, 7, some 66) :: (59, 6, some 65) :: (59, 5, some 64) :: (59, 4, some 63) :: (59, 3, some 62) :: (59, 2, some 61) :: (59, 1, some 60) :: r
def B_i (i : List (Nat × Nat × Int32)) : List (Nat × Nat × Int32) := (59, 41, 13) :: (60, 16, -1) :: (60, 15, 0) :: (60, 14, 0) :: (60, 13, 0) :: (60, 12, 0) :: (60, 11, 0) :: (60, 10, 0) :: (60, 9, 0) :: (60, 8, 0) :: (60, 7, 0) :: (60, 6, 0) :: (60, 5, 0) :: (60, 4, 0) :: (60, 3, 0) :: (60, 2, 0) :: (60, 1, 0) :: (60, 0, 0) :: i
set_option maxHeartbeats 4000000 in
theorem init_11 {G : GG} {X : Nat} {h : AH} (hr : RM X 1 [(0, .inl 11)] [] [] h) : ∃ y, f_X11_init G (X + 0) h = some y ∧ RM X 59 A_t A_r A_i y := by
  unfold f_X11_init
  refine x_new (n' := 2) hr rfl ?_
  clear hr h; intro h hr
  refine x_ob ?_
  try unfold f_X8_init
  refine x_new (n' := 3) hr rfl ?_
  clear hr h; intro h hr
  refine x_ck hr (by rfl) ?_
  refine x_sr hr (by decide) ?_
  clear hr h; intro h hr
  refine x_si hr (by decide) ?_
  clear hr h; intro h hr
  refine x_new (n' := 4) hr rfl ?_
  clear hr h; intro h hr
  refine x_ck hr (by rfl) ?_
  refine x_sr hr (by decide) ?_
  clear hr h; intro h hr
  refine x_new (n' := 5) hr rfl ?_
  clear hr h; intro h hr
  refine x_ck hr (by rfl) ?_
  refine x_sr hr (by decide) ?_
  clear hr h; intro h hr
  refine x_new (n' := 6) hr rfl ?_
  clear hr h; intro h hr
  refine x_ck hr (by rfl) ?_
  refine x_sr hr (by decide) ?_
  clear hr h; intro h hr
  refine x_si hr (by decide) ?_
  clear hr h; intro h hr
  refine x_si hr (by decide) ?_
  clear hr h; intro h hr
  refine x_si hr (by decide) ?_
  clear hr h; intro h hr
  refine x_si hr (by decide) ?_
  clear hr h; intro h hr
  refine x_si hr (by decide) ?_
  clear hr h; intro h hr
  refine x_some ?_
  refine x_ck hr (by rfl) ?_
  refine x_sr hr (by decide) ?_
  clear hr h; intro h hr
  refine x_new (n' := 7) hr rfl ?_
  clear hr h; intro h hr
  refine x_ck hr (by rfl) ?_
  refine x_r (b := 1) hr (by rfl) ?_
  refine x_ob ?_
  try unfold f_X10_init
  refine x_ck hr (by rfl) ?_
  refine x_si hr (by decide) ?_
  clear hr h; intro h hr
  refine x_sr hr (by decide) ?_
  clear hr h; intro h hr
  refine x_some ?_
  refine x_ck hr (by rfl) ?_
  refine x_sr hr (by decide) ?_
  clear hr h; intro h hr
  refine x_new (n' := 8) hr rfl ?_
  clear hr h; intro h hr
  refine x_ck hr (by rfl) ?_
  refine x_r (b := 1) hr (by rfl) ?_
  refine x_ob ?_
  try unfold f_X3_init
  refine x_new (n' := 9) hr rfl ?_
  clear hr h; intro h hr
  refine x_ck hr (by rfl) ?_
  refine x_sr hr (by decide) ?_
  clear hr h; intro h hr
  refine x_si hr (by decide) ?_
  clear hr h; intro h hr
  refine x_si hr (by decide) ?_
  clear hr h; intro h hr
  refine x_sr hr (by decide) ?_
  clear hr h; intro h hr
  refine x_some ?_
  refine x_ck hr (by rfl) ?_
  refine x_sr hr (by decide) ?_
  clear hr h; intro h hr
  refine x_new (n' := 10) hr rfl ?_
  clear hr h; intro h hr
  refine x_ck hr (by rfl) ?_
  refine x_sr hr (by decide) ?_
  clear hr h; intro h hr
  refine x_si hr (by decide) ?_
  clear hr h; intro h hr
  refine x_new (n' := 11) hr rfl ?_
  clear hr h; intro h hr
  refine x_new (n' := 12) hr rfl ?_
  clear hr h; intro h hr
  refine x_tr (n := 12) (n' := 27) hr rfl ?_
  clear hr h; intro h hr
  refine x_ob ?_
  try unfold f_X0_init
  refine x_ck hr (by rfl) ?_
  refine x_sn hr (by decide) ?_
  clear hr h; intro h hr
  refine x_si hr (by decide) ?_
  clear hr h; intro h hr
  refine x_si hr (by decide) ?_
  clear hr h; intro h hr
  refine x_si hr (by decide) ?_
  clear hr h; intro h hr
  refine x_si hr (by decide) ?_
  clear hr h; intro h hr
  refine x_new (n' := 28) hr rfl ?_
  clear hr h; intro h hr
  refine x_ck hr (by rfl) ?_
  refine x_sr hr (by decide) ?_
  clear hr h; intro h hr
  refine x_new (n' := 29) hr rfl ?_
  clear hr h; intro h hr
  refine x_ck hr (by rfl) ?_
  refine x_sr hr (by decide) ?_
  clear hr h; intro h hr
  refine x_new (n' := 30) hr rfl ?_
  clear hr h; intro h hr
  refine x_ck hr (by rfl) ?_
  refine x_sr hr (by decide) ?_
  clear hr h; intro h hr
  refine x_new (n' := 31) hr rfl ?_
  clear hr h; intro h hr
  refine x_ck hr (by rfl) ?_
  refine x_sr hr (by decide) ?_
  clear hr h; intro h hr
  refine x_sr hr (by decide) ?_
  clear hr h; intro h hr
  refine x_some ?_
  refine x_ob ?_
  try unfold f_X6_init
  refine x_ck hr (by rfl) ?_
  refine x_si hr (by decide) ?_
  clear hr h; intro h hr
  refine x_si hr (by decide) ?_
  clear hr h; intro h hr
  refine x_si hr (by decide) ?_
  clear hr h; intro h hr
  refine x_si hr (by decide) ?_
  clear hr h; intro h hr
  refine x_new (n' := 32) hr rfl ?_
  clear hr h; intro h hr
  refine x_ck hr (by rfl) ?_
  refine x_sr hr (by decide) ?_
  clear hr h; intro h hr
  refine x_new (n' := 33) hr rfl ?_
  clear hr h; intro h hr
  refine x_ck hr (by rfl) ?_
  refine x_sr hr (by decide) ?_
  clear hr h; intro h hr
  refine x_sr hr (by decide) ?_
  clear hr h; intro h hr
  refine x_some ?_
  refine x_ck hr (by rfl) ?_
  refine x_sr hr (by decide) ?_
  clear hr h; intro h hr
  refine x_new4 (n' := 34) hr rfl ?_
  clear hr h; intro h hr
  refine x_ck hr (by rfl) ?_
  refine x_sr hr (by decide) ?_
  clear hr h; intro h hr
  refine x_new (n' := 35) hr rfl ?_
  clear hr h; intro h hr
  refine x_ck hr (by rfl) ?_
  refine x_r (b := 10) hr (by rfl) ?_
  refine x_ck hr (by rfl) ?_
  refine x_r (b := 11) hr (by rfl) ?_
  refine x_ck hr (by rfl) ?_
  refine x_r (b := 12) hr (by rfl) ?_
  refine x_ob ?_
  try unfold f_X0_init
  refine x_ck hr (by rfl) ?_
  refine x_sn hr (by decide) ?_
  clear hr h; intro h hr
  refine x_si hr (by decide) ?_
  clear hr h; intro h hr
  refine x_si hr (by decide) ?_
  clear hr h; intro h hr
  refine x_si hr (by decide) ?_
  clear hr h; intro h hr
  refine x_si hr (by decide) ?_
  clear hr h; intro h hr
  refine x_new (n' := 36) hr rfl ?_
  clear hr h; intro h hr
  refine x_ck hr (by rfl) ?_
  refine x_sr hr (by decide) ?_
  clear hr h; intro h hr
  refine x_new (n' := 37) hr rfl ?_
  clear hr h; intro h hr
  refine x_ck hr (by rfl) ?_
  refine x_sr hr (by decide) ?_
  clear hr h; intro h hr
  refine x_new (n' := 38) hr rfl ?_
  clear hr h; intro h hr
  refine x_ck hr (by rfl) ?_
  refine x_sr hr (by decide) ?_
  clear hr h; intro h hr
  refine x_new (n' := 39) hr rfl ?_
  clear hr h; intro h hr
  refine x_ck hr (by rfl) ?_
  refine x_sr hr (by decide) ?_
  clear hr h; intro h hr
  refine x_sr hr (by decide) ?_
  clear hr h; intro h hr
  refine x_some ?_
  refine x_ck hr (by rfl) ?_
  refine x_sr hr (by decide) ?_
  clear hr h; intro h hr
  refine x_new (n' := 40) hr rfl ?_
  clear hr h; intro h hr
  refine x_ob ?_
  try unfold f_X7_init
  refine x_new (n' := 41) hr rfl ?_
  clear hr h; intro h hr
  refine x_ck hr (by rfl) ?_
  refine x_sr hr (by decide) ?_
  clear hr h; intro h hr
  refine x_si hr (by decide) ?_
  clear hr h; intro h hr
  refine x_new (n' := 42) hr rfl ?_
  clear hr h; intro h hr
  refine x_ck hr (by rfl) ?_
  refine x_sr hr (by decide) ?_
  clear hr h; intro h hr
  refine x_new (n' := 43) hr rfl ?_
  clear hr h; intro h hr
  refine x_ck hr (by rfl) ?_
  refine x_sr hr (by decide) ?_
  clear hr h; intro h hr
  refine x_new (n' := 44) hr rfl ?_
  clear hr h; intro h hr
  refine x_ck hr (by rfl) ?_
  refine x_sr hr (by decide) ?_
  clear hr h; intro h hr
  refine x_si hr (by decide) ?_
  clear hr h; intro h hr
  refine x_si hr (by decide) ?_
  clear hr h; intro h hr
  refine x_some ?_
  refine x_ck hr (by rfl) ?_
  refine x_sr hr (by decide) ?_
  clear hr h; intro h hr
  refine x_new (n' := 45) hr rfl ?_
  clear hr h; intro h hr
  refine x_ob ?_
  try unfold f_X4_init
  refine x_new (n' := 46) hr rfl ?_
  clear hr h; intro h hr
  refine x_ck hr (by rfl) ?_
  refine x_sr hr (by decide) ?_
  clear hr h; intro h hr
  refine x_new (n' := 47) hr rfl ?_
  clear hr h; intro h hr
  refine x_ck hr (by rfl) ?_
  refine x_sr hr (by decide) ?_
  clear hr h; intro h hr
  refine x_new (n' := 48) hr rfl ?_
  clear hr h; intro h hr
  refine x_ck hr (by rfl) ?_
  refine x_sr hr (by decide) ?_
  clear hr h; intro h hr
  refine x_new (n' := 49) hr rfl ?_
  clear hr h; intro h hr
  refine x_ck hr (by rfl) ?_
  refine x_sr hr (by decide) ?_
  clear hr h; intro h hr
  refine x_new (n' := 50) hr rfl ?_
  clear hr h; intro h hr
  refine x_ck hr (by rfl) ?_
  refine x_sr hr (by decide) ?_
  clear hr h; intro h hr
  refine x_new (n' := 51) hr rfl ?_
  clear hr h; intro h hr
  refine x_ck hr (by rfl) ?_
  refine x_sr hr (by decide) ?_
  clear hr h; intro h hr
  refine x_new (n' := 52) hr rfl ?_
  clear hr h; intro h hr
  refine x_ck hr (by rfl) ?_
  refine x_sr hr (by decide) ?_
  clear hr h; intro h hr
  refine x_new (n' := 53) hr rfl ?_
  clear hr h; intro h hr
  refine x_ck hr (by rfl) ?_
  refine x_sr hr (by decide) ?_
  clear hr h; intro h hr
  refine x_new (n' := 54) hr rfl ?_
  clear hr h; intro h hr
  refine x_ck hr (by rfl) ?_
  refine x_sr hr (by decide) ?_
  clear hr h; intro h hr
  refine x_some ?_
  refine x_ck hr (by rfl) ?_
  refine x_sr hr (by decide) ?_
  clear hr h; intro h hr
  refine x_new (n' := 55) hr rfl ?_
  clear hr h; intro h hr
  refine x_ob ?_
  try unfold f_X1_init
  refine x_new (n' := 56) hr rfl ?_
  clear hr h; intro h hr
  refine x_ck hr (by rfl) ?_
  refine x_sr hr (by decide) ?_
  clear hr h; intro h hr
  refine x_new (n' := 57) hr rfl ?_
  clear hr h; intro h hr
  refine x_ck hr (by rfl) ?_
  refine x_sr hr (by decide) ?_
  clear hr h; intro h hr
  refine x_new (n' := 58) hr rfl ?_
  clear hr h; intro h hr
  refine x_ck hr (by rfl) ?_
  refine x_sr hr (by decide) ?_
  clear hr h; intro h hr
  refine x_si hr (by decide) ?_
  clear hr h; intro h hr
  refine x_some ?_
  refine x_ck hr (by rfl) ?_
  refine x_sr hr (by decide) ?_
  clear hr h; intro h hr
  refine x_new (n' := 59) hr rfl ?_
  clear hr h; intro h hr
  refine x_ck hr (by rfl) ?_
  refine x_sr hr (by decide) ?_
  clear hr h; intro h hr
  refine x_si hr (by decide) ?_
  clear hr h; intro h hr
  refine x_some ?_
  exact hr
set_option maxHeartbeats 4000000 in
theorem init_12 {G : GG} {X : Nat} {t : List (Nat × TT)} {r : List (Nat × Nat × Option Nat)} {i : List (Nat × Nat × Int32)} {h : AH} (hr : RM X 60 ((59, .inl 12) :: t) r i h) : ∃ y, f_X12_init G (X + 59) h = some y ∧ RM X 122 (B_t t) (B_r r) (B_i i) y := by
  unfold f_X12_init
  refine x_new (n' := 61) hr rfl ?_
  clear hr h; intro h hr
  refine x_ix (j := 0) hr (by rfl) (by rfl) (by decide) (by decide) ?_
  refine x_sk (k := 0) hr (by decide) (by rfl) ?_
  clear hr h; intro h hr
  refine x_ix (j := 1) hr (by rfl) (by rfl) (by decide) (by decide) ?_
  refine x_sk (k := 1) hr (by decide) (by rfl) ?_
  clear hr h; intro h hr
  refine x_ix (j := 2) hr (by rfl) (by rfl) (by decide) (by decide) ?_
  refine x_sk (k := 2) hr (by decide) (by rfl) ?_
  clear hr h; intro h hr
  refine x_ix (j := 3) hr (by rfl) (by rfl) (by decide) (by decide) ?_
  refine x_sk (k := 3) hr (by decide) (by rfl) ?_
  clear hr h; intro h hr
  refine x_ix (j := 4) hr (by rfl) (by rfl) (by decide) (by decide) ?_
  refine x_sk (k := 4) hr (by decide) (by rfl) ?_
  clear hr h; intro h hr
  refine x_ix (j := 5) hr (by rfl) (by rfl) (by decide) (by decide) ?_
  refine x_sk (k := 5) hr (by decide) (by rfl) ?_
  clear hr h; intro h hr
  refine x_ix (j := 6) hr (by rfl) (by rfl) (by decide) (by decide) ?_
  refine x_sk (k := 6) hr (by decide) (by rfl) ?_
  clear hr h; intro h hr
  refine x_ix (j := 7) hr (by rfl) (by rfl) (by decide) (by decide) ?_
  refine x_sk (k := 7) hr (by decide) (by rfl) ?_
  clear hr h; intro h hr
  refine x_ix (j := 8) hr (by rfl) (by rfl) (by decide) (by decide) ?_
  refine x_sk (k := 8) hr (by decide) (by rfl) ?_
  clear hr h; intro h hr
  refine x_ix (j := 9) hr (by rfl) (by rfl) (by decide) (by decide) ?_
  refine x_sk (k := 9) hr (by decide) (by rfl) ?_
  clear hr h; intro h hr
  refine x_ix (j := 10) hr (by rfl) (by rfl) (by decide) (by decide) ?_
  refine x_sk (k := 10) hr (by decide) (by rfl) ?_
  clear hr h; intro h hr
  refine x_ix (j := 11) hr (by rfl) (by rfl) (by decide) (by decide) ?_
  refine x_sk (k := 11) hr (by decide) (by rfl) ?_
  clear hr h; intro h hr
  refine x_ix (j := 12) hr (by rfl) (by rfl) (by decide) (by decide) ?_
  refine x_sk (k := 12) hr (by decide) (by rfl) ?_
  clear hr h; intro h hr
  refine x_ix (j := 13) hr (by rfl) (by rfl) (by decide) (by decide) ?_
  refine x_sk (k := 13) hr (by decide) (by rfl) ?_
  clear hr h; intro h hr
  refine x_ix (j := 14) hr (by rfl) (by rfl) (by decide) (by decide) ?_
  refine x_sk (k := 14) hr (by decide) (by rfl) ?_
  clear hr h; intro h hr
  refine x_ix (j := 15) hr (by rfl) (by rfl) (by decide) (by decide) ?_
  refine x_sk (k := 15) hr (by decide) (by rfl) ?_
  clear hr h; intro h hr
  refine x_ix (j := 16) hr (by rfl) (by rfl) (by decide) (by decide) ?_
  refine x_sk (k := 16) hr (by decide) (by rfl) ?_
  clear hr h; intro h hr
  refine x_ck hr (by rfl) ?_
  refine x_sr hr (by decide) ?_
  clear hr h; intro h hr
  refine x_new (n' := 62) hr rfl ?_
  clear hr h; intro h hr
  refine x_ck hr (by rfl) ?_
  refine x_sr hr (by decide) ?_
  clear hr h; intro h hr
  refine x_new (n' := 63) hr rfl ?_
  clear hr h; intro h hr
  refine x_ck hr (by rfl) ?_
  refine x_sr hr (by decide) ?_
  clear hr h; intro h hr
  refine x_new (n' := 64) hr rfl ?_
  clear hr h; intro h hr
  refine x_ck hr (by rfl) ?_
  refine x_sr hr (by decide) ?_
  clear hr h; intro h hr
  refine x_new (n' := 65) hr rfl ?_
  clear hr h; intro h hr
  refine x_ck hr (by rfl) ?_
  refine x_sr hr (by decide) ?_
  clear hr h; intro h hr
  refine x_new (n' := 66) hr rfl ?_
  clear hr h; intro h hr
  refine x_ck hr (by rfl) ?_
  refine x_sr hr (by decide) ?_
  clear hr h; intro h hr
  refine x_new (n' := 67) hr rfl ?_
  clear hr h; intro h hr
  refine x_ck hr (by rfl) ?_
  refine x_sr hr (by decide) ?_
  clear hr h; intro h hr
  refine x_new (n' := 68) hr rfl ?_
  clear hr h; intro h hr
  refine x_ck hr (by rfl) ?_
  refine x_sr hr (by decide) ?_
  clear hr h; intro h hr
  refine x_new (n' := 69) hr rfl ?_
  clear hr h; intro h hr
  refine x_ck hr (by rfl) ?_
  refine x_sr hr (by decide) ?_
  clear hr h; intro h hr
  refine x_new (n' := 70) hr rfl ?_
  clear hr h; intro h hr
  refine x_ck hr (by rfl) ?_
  refine x_sr hr (by decide) ?_
  clear hr h; intro h hr
  refine x_new (n' := 71) hr rfl ?_
  clear hr h; intro h hr
  refine x_ck hr (by rfl) ?_
  refine x_sr hr (by decide) ?_
  clear hr h; intro h hr
  refine x_new (n' := 72) hr rfl ?_
  clear hr h; intro h hr
  refine x_ck hr (by rfl) ?_
  refine x_sr hr (by decide) ?_
  clear hr h; intro h hr
  refine x_new (n' := 73) hr rfl ?_
  clear hr h; intro h hr
  refine x_ck hr (by rfl) ?_
  refine x_sr hr (by decide) ?_
  clear hr h; intro h hr
  refine x_new (n' := 74) hr rfl ?_
  clear hr h; intro h hr
  refine x_ck hr (by rfl) ?_
  refine x_sr hr (by decide) ?_
  clear hr h; intro h hr
  refine x_new (n' := 75) hr rfl ?_
  clear hr h; intro h hr
  refine x_ck hr (by rfl) ?_
  refine x_sr hr (by decide) ?_
  clear hr h; intro h hr
  refine x_new (n' := 76) hr rfl ?_
  clear hr h; intro h hr
  refine x_ck hr (by rfl) ?_
  refine x_sr hr (by decide) ?_
  clear hr h; intro h hr
  refine x_new (n' := 77) hr rfl ?_
  clear hr h; intro h hr
  refine x_ck hr (by rfl) ?_
  refine x_sr hr (by decide) ?_
  clear hr h; intro h hr
  refine x_new (n' := 78) hr rfl ?_
  clear hr h; intro h hr
  refine x_ck hr (by rfl) ?_
  refine x_sr hr (by decide) ?_
  clear hr h; intro h hr
  refine x_new (n' := 79) hr rfl ?_
  clear hr h; intro h hr
  refine x_ck hr (by rfl) ?_
  refine x_sr hr (by decide) ?_
  clear hr h; intro h hr
  refine x_new (n' := 80) hr rfl ?_
  clear hr h; intro h hr
  refine x_ck hr (by rfl) ?_
  refine x_sr hr (by decide) ?_
  clear hr h; intro h hr
  refine x_new (n' := 81) hr rfl ?_
  clear hr h; intro h hr
  refine x_ck hr (by rfl) ?_
  refine x_sr hr (by decide) ?_
  clear hr h; intro h hr
  refine x_new (n' := 82) hr rfl ?_
  clear hr h; intro h hr
  refine x_ck hr (by rfl) ?_
  refine x_sr hr (by decide) ?_
  clear hr h; intro h hr
  refine x_new (n' := 83) hr rfl ?_
  clear hr h; intro h hr
  refine x_ck hr (by rfl) ?_
  refine x_sr hr (by decide) ?_
  clear hr h; intro h hr
  refine x_new (n' := 84) hr rfl ?_
  clear hr h; intro h hr
  refine x_ck hr (by rfl) ?_
  refine x_sr hr (by decide) ?_
  clear hr h; intro h hr
  refine x_new (n' := 85) hr rfl ?_
  clear hr h; intro h hr
  refine x_ck hr (by rfl) ?_
  refine x_sr hr (by decide) ?_
  clear hr h; intro h hr
  refine x_new (n' := 86) hr rfl ?_
  clear hr h; intro h hr
  refine x_ck hr (by rfl) ?_
  refine x_sr hr (by decide) ?_
  clear hr h; intro h hr
  refine x_new (n' := 87) hr rfl ?_
  clear hr h; intro h hr
  refine x_ck hr (by rfl) ?_
  refine x_sr hr (by decide) ?_
  clear hr h; intro h hr
  refine x_new (n' := 88) hr rfl ?_
  clear hr h; intro h hr
  refine x_ck hr (by rfl) ?_
  refine x_sr hr (by decide) ?_
  clear hr h; intro h hr
  refine x_new (n' := 89) hr rfl ?_
  clear hr h; intro h hr
  refine x_ck hr (by rfl) ?_
  refine x_sr hr (by decide) ?_
  clear hr h; intro h hr
  refine x_new (n' := 90) hr rfl ?_
  clear hr h; intro h hr
  refine x_ck hr (by rfl) ?_
  refine x_sr hr (by decide) ?_
  clear hr h; intro h hr
  refine x_new (n' := 91) hr rfl ?_
  clear hr h; intro h hr
  refine x_ck hr (by rfl) ?_
  refine x_sr hr (by decide) ?_
  clear hr h; intro h hr
  refine x_si hr (by decide) ?_
  clear hr h; intro h hr
  refine x_new (n' := 92) hr rfl ?_
  clear hr h; intro h hr
  refine x_ck hr (by rfl) ?_
  refine x_sr hr (by decide) ?_
  clear hr h; intro h hr
  refine x_new (n' := 93) hr rfl ?_
  clear hr h; intro h hr
  refine x_ck hr (by rfl) ?_
  refine x_sr hr (by decide) ?_
  clear hr h; intro h hr
  refine x_new (n' := 94) hr rfl ?_
  clear hr h; intro h hr
  refine x_ck hr (by rfl) ?_
  refine x_sr hr (by decide) ?_
  clear hr h; intro h hr
  refine x_new (n' := 95) hr rfl ?_
  clear hr h; intro h hr
  refine x_ck hr (by rfl) ?_
  refine x_sr hr (by decide) ?_
  clear hr h; intro h hr
  refine x_new (n' := 96) hr rfl ?_
  clear hr h; intro h hr
  refine x_ck hr (by rfl) ?_
  refine x_sr hr (by decide) ?_
  clear hr h; intro h hr
  refine x_new (n' := 97) hr rfl ?_
  clear hr h; intro h hr
  refine x_ck hr (by rfl) ?_
  refine x_sr hr (by decide) ?_
  clear hr h; intro h hr
  refine x_new (n' := 98) hr rfl ?_
  clear hr h; intro h hr
  refine x_ck hr (by rfl) ?_
  refine x_sr hr (by decide) ?_
  clear hr h; intro h hr
  refine x_new (n' := 99) hr rfl ?_
  clear hr h; intro h hr
  refine x_ck hr (by rfl) ?_
  refine x_sr hr (by decide) ?_
  clear hr h; intro h hr
  refine x_new (n' := 100) hr rfl ?_
  clear hr h; intro h hr
  refine x_ck hr (by rfl) ?_
  refine x_sr hr (by decide) ?_
  clear hr h; intro h hr
  refine x_new (n' := 101) hr rfl ?_
  clear hr h; intro h hr
  refine x_ck hr (by rfl) ?_
  refine x_sr hr (by decide) ?_
  clear hr h; intro h hr
  refine x_new (n' := 102) hr rfl ?_
  clear hr h; intro h hr
  refine x_ck hr (by rfl) ?_
  refine x_sr hr (by decide) ?_
  clear hr h; intro h hr
  refine x_new (n' := 103) hr rfl ?_
  clear hr h; intro h hr
  refine x_ck hr (by rfl) ?_
  refine x_sr hr (by decide) ?_
  clear hr h; intro h hr
  refine x_new (n' := 104) hr rfl ?_
  clear hr h; intro h hr
  refine x_ck hr (by rfl) ?_
  refine x_sr hr (by decide) ?_
  clear hr h; intro h hr
  refine x_new (n' := 105) hr rfl ?_
  clear hr h; intro h hr
  refine x_ck hr (by rfl) ?_
  refine x_sr hr (by decide) ?_
  clear hr h; intro h hr
  refine x_new (n' := 106) hr rfl ?_
  clear hr h; intro h hr
  refine x_ck hr (by rfl) ?_
  refine x_sr hr (by decide) ?_
  clear hr h; intro h hr
  refine x_new (n' := 107) hr rfl ?_
  clear hr h; intro h hr
  refine x_ck hr (by rfl) ?_
  refine x_sr hr (by decide) ?_
  clear hr h; intro h hr
  refine x_new (n' := 108) hr rfl ?_
  clear hr h; intro h hr
  refine x_ck hr (by rfl) ?_
  refine x_sr hr (by decide) ?_
  clear hr h; intro h hr
  refine x_new (n' := 109) hr rfl ?_
  clear hr h; intro h hr
  refine x_ck hr (by rfl) ?_
  refine x_sr hr (by decide) ?_
  clear hr h; intro h hr
  refine x_new (n' := 110) hr rfl ?_
  clear hr h; intro h hr
  refine x_ck hr (by rfl) ?_
  refine x_sr hr (by decide) ?_
  clear hr h; intro h hr
  refine x_new (n' := 111) hr rfl ?_
  clear hr h; intro h hr
  refine x_ck hr (by rfl) ?_
  refine x_sr hr (by decide) ?_
  clear hr h; intro h hr
  refine x_new (n' := 112) hr rfl ?_
  clear hr h; intro h hr
  refine x_ck hr (by rfl) ?_
  refine x_sr hr (by decide) ?_
  clear hr h; intro h hr
  refine x_new (n' := 113) hr rfl ?_
  clear hr h; intro h hr
  refine x_ck hr (by rfl) ?_
  refine x_sr hr (by decide) ?_
  clear hr h; intro h hr
  refine x_new (n' := 114) hr rfl ?_
  clear hr h; intro h hr
  refine x_ck hr (by rfl) ?_
  refine x_sr hr (by decide) ?_
  clear hr h; intro h hr
  refine x_new (n' := 115) hr rfl ?_
  clear hr h; intro h hr
  refine x_ck hr (by rfl) ?_
  refine x_sr hr (by decide) ?_
  clear hr h; intro h hr
  refine x_new (n' := 116) hr rfl ?_
  clear hr h; intro h hr
  refine x_ck hr (by rfl) ?_
  refine x_sr hr (by decide) ?_
  clear hr h; intro h hr
  refine x_new (n' := 117) hr rfl ?_
  clear hr h; intro h hr
  refine x_ck hr (by rfl) ?_
  refine x_sr hr (by decide) ?_
  clear hr h; intro h hr
  refine x_new (n' := 118) hr rfl ?_
  clear hr h; intro h hr
  refine x_ck hr (by rfl) ?_
  refine x_sr hr (by decide) ?_
  clear hr h; intro h hr
  refine x_new (n' := 119) hr rfl ?_
  clear hr h; intro h hr
  refine x_ck hr (by rfl) ?_
  refine x_sr hr (by decide) ?_
  clear hr h; intro h hr
  refine x_new (n' := 120) hr rfl ?_
  clear hr h; intro h hr
  refine x_ck hr (by rfl) ?_
  refine x_sr hr (by decide) ?_
  clear hr h; intro h hr
  refine x_new (n' := 121) hr rfl ?_
  clear hr h; intro h hr
  refine x_ck hr (by rfl) ?_
  refine x_sr hr (by decide) ?_
  clear hr h; intro h hr
  refine x_new (n' := 122) hr rfl ?_
  clear hr h; intro h hr
  refine x_ck hr (by rfl) ?_
  refine x_sr hr (by decide) ?_
  clear hr h; intro h hr
  refine x_some ?_
  exact hr
