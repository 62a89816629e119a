/-- fuel for loops: a number of which nothing is known but that it is large -/
noncomputable def KF : Nat := Classical.choose (⟨4611686018427387904, rfl⟩ : ∃ n : Nat, n = 4611686018427387904)
theorem KF_eq : KF = 4611686018427387904 := Classical.choose_spec (⟨4611686018427387904, rfl⟩ : ∃ n : Nat, n = 4611686018427387904)
def LAYc : List Kd := [(11, [1, 2, 19, (-3), (-3), 35, 37, 38, 40, 42, 49, 55, 59, 60, (-1), (-1), (-1), (-2), (-2)]), (104, [61, 63, 65, 67]), (7, [(-3), (-3), 18, (-1), (-1)]), (2, [(-1), (-1), (-1), (-1), (-1), (-1), (-1), (-1), (-1), (-1), (-1), 4, 5, 6, 7, 8, 9, 10, 11, 12]), (100, [60]), (100, [60]), (100, [12]), (101, [5]), (100, [5]), (100, [5]), (100, [5]), (100, [5]), (100, [5]), (4, [(-1), (-1), 14, 15, 16, 17]), (100, [60]), (100, [60]), (100, [60]), (100, [60]), (101, [32]), (105, [69, 86, 103]), (2, [(-1), (-1), (-1), (-1), (-1), (-1), (-1), (-1), (-1), (-1), (-1), 21, 22, 23, 24, 25, 26, 27, 28, 29]), (100, [60]), (100, [60]), (100, [12]), (101, [5]), (100, [5]), (100, [5]), (100, [5]), (100, [5]), (100, [5]), (4, [(-1), (-1), 31, 32, 33, 34]), (100, [60]), (100, [60]), (100, [60]), (100, [60]), (8, [36, (-1), (-1), (-1), (-1), (-1), (-2), (-1), (-1), (-1), (-1)]), (102, [900]), (3, [35, (-3), (-1), (-1), (-1), (-1), (-1)]), (5, [35, 39, (-3), (-3), (-1)]), (100, [3]), (9, [41]), (101, [32]), (1, [43, 44, (-1), 45, 46, 47, 48, (-1), (-1), (-1), (-2), (-3), (-1), (-1), (-1), (-1), (-2), (-2), (-2)]), (103, [32]), (100, [32]), (101, [32]), (101, [5]), (100, [480]), (100, [60]), (6, [42, 50, (-3), (-1), (-1)]), (106, [51, 52, 53, 54]), (101, [32]), (101, [32]), (101, [32]), (101, [32]), (0, [40, 42, 56, 57, 58, (-3), (-3), (-1), (-1), (-1), (-1), (-1)]), (100, [7]), (101, [32]), (100, [60]), (101, [32]), (100, [7]), (10, [62, (-1), (-1)]), (101, [60]), (10, [64, (-1), (-1)]), (101, [60]), (10, [66, (-1), (-1)]), (101, [60]), (10, [68, (-1), (-1)]), (101, [60]), (7, [(-3), (-3), 85, (-1), (-1)]), (2, [(-1), (-1), (-1), (-1), (-1), (-1), (-1), (-1), (-1), (-1), (-1), 71, 72, 73, 74, 75, 76, 77, 78, 79]), (100, [60]), (100, [60]), (100, [12]), (101, [5]), (100, [5]), (100, [5]), (100, [5]), (100, [5]), (100, [5]), (4, [(-1), (-1), 81, 82, 83, 84]), (100, [60]), (100, [60]), (100, [60]), (100, [60]), (101, [32]), (7, [(-3), (-3), 102, (-1), (-1)]), (2, [(-1), (-1), (-1), (-1), (-1), (-1), (-1), (-1), (-1), (-1), (-1), 88, 89, 90, 91, 92, 93, 94, 95, 96]), (100, [60]), (100, [60]), (100, [12]), (101, [5]), (100, [5]), (100, [5]), (100, [5]), (100, [5]), (100, [5]), (4, [(-1), (-1), 98, 99, 100, 101]), (100, [60]), (100, [60]), (100, [60]), (100, [60]), (101, [32]), (7, [(-3), (-3), 119, (-1), (-1)]), (2, [(-1), (-1), (-1), (-1), (-1), (-1), (-1), (-1), (-1), (-1), (-1), 105, 106, 107, 108, 109, 110, 111, 112, 113]), (100, [60]), (100, [60]), (100, [12]), (101, [5]), (100, [5]), (100, [5]), (100, [5]), (100, [5]), (100, [5]), (4, [(-1), (-1), 115, 116, 117, 118]), (100, [60]), (100, [60]), (100, [60]), (100, [60]), (101, [32])]
def LAYm : List Kd := [(12, [121, 122, (-1), (-2), (-2), 123, 124, 125, 126, 127, (-1), (-1), (-1), (-1), (-1), (-1), (-1), (-1), (-1), (-1), (-1), 128, (-1), 129, (-1), (-1), 130, 131, 132, 133, 134, (-1), (-1), (-1), (-1), 135, (-1), 136, 137, (-1), (-1), (-1), (-1), (-1), (-1), (-1), (-1), (-1), (-1), (-1), 138, 139, (-1), (-1)]), (100, [2200]), (101, [25]), (100, [4]), (100, [4]), (101, [240]), (102, [900]), (102, [900]), (100, [4]), (100, [3]), (101, [32]), (101, [32]), (100, [540]), (103, [60]), (100, [32]), (100, [2000]), (101, [128]), (100, [32]), (100, [64]), (100, [7])]
def LKc (L : List Kd) : Prop := ∃ M, L = LAYc ++ M
def LKm (L : List Kd) : Prop := ∃ M, L = (LAYc ++ LAYm) ++ M
theorem LKm.c {L : List Kd} (h : LKm L) : LKc L := by
  obtain ⟨M, rfl⟩ := h
  exact ⟨LAYm ++ M, by rw [List.append_assoc]⟩
theorem at_c {L : List Kd} (h : LKc L) (i : Nat) {k : Kd} (hk : LAYc[i]? = some k) {z : Int} (hz : ((i : Nat) : Int) = z) : At L z k := by
  obtain ⟨M, rfl⟩ := h
  subst hz
  have hl := (List.getElem?_eq_some_iff.mp hk).1
  exact ⟨by omega, by rw [Int.toNat_natCast, List.getElem?_append_left hl]; exact hk⟩
theorem at_m {L : List Kd} (h : LKm L) (i : Nat) {k : Kd} (hk : (LAYc ++ LAYm)[i]? = some k) {z : Int} (hz : ((i : Nat) : Int) = z) : At L z k := by
  obtain ⟨M, rfl⟩ := h
  subst hz
  have hl := (List.getElem?_eq_some_iff.mp hk).1
  exact ⟨by omega, by rw [Int.toNat_natCast, List.getElem?_append_left hl]; exact hk⟩
theorem at_0 {L : List Kd} (h : LKc L) : At L 0 (11, [1, 2, 19, (-3), (-3), 35, 37, 38, 40, 42, 49, 55, 59, 60, (-1), (-1), (-1), (-2), (-2)]) := at_c h 0 rfl rfl
theorem at_1 {L : List Kd} (h : LKc L) : At L 1 (104, [61, 63, 65, 67]) := at_c h 1 rfl rfl
theorem at_2 {L : List Kd} (h : LKc L) : At L 2 (7, [(-3), (-3), 18, (-1), (-1)]) := at_c h 2 rfl rfl
theorem at_3 {L : List Kd} (h : LKc L) : At L 3 (2, [(-1), (-1), (-1), (-1), (-1), (-1), (-1), (-1), (-1), (-1), (-1), 4, 5, 6, 7, 8, 9, 10, 11, 12]) := at_c h 3 rfl rfl
theorem at_4 {L : List Kd} (h : LKc L) : At L 4 (100, [60]) := at_c h 4 rfl rfl
theorem at_5 {L : List Kd} (h : LKc L) : At L 5 (100, [60]) := at_c h 5 rfl rfl
theorem at_6 {L : List Kd} (h : LKc L) : At L 6 (100, [12]) := at_c h 6 rfl rfl
theorem at_7 {L : List Kd} (h : LKc L) : At L 7 (101, [5]) := at_c h 7 rfl rfl
theorem at_8 {L : List Kd} (h : LKc L) : At L 8 (100, [5]) := at_c h 8 rfl rfl
theorem at_9 {L : List Kd} (h : LKc L) : At L 9 (100, [5]) := at_c h 9 rfl rfl
theorem at_10 {L : List Kd} (h : LKc L) : At L 10 (100, [5]) := at_c h 10 rfl rfl
theorem at_11 {L : List Kd} (h : LKc L) : At L 11 (100, [5]) := at_c h 11 rfl rfl
theorem at_12 {L : List Kd} (h : LKc L) : At L 12 (100, [5]) := at_c h 12 rfl rfl
theorem at_13 {L : List Kd} (h : LKc L) : At L 13 (4, [(-1), (-1), 14, 15, 16, 17]) := at_c h 13 rfl rfl
theorem at_14 {L : List Kd} (h : LKc L) : At L 14 (100, [60]) := at_c h 14 rfl rfl
theorem at_15 {L : List Kd} (h : LKc L) : At L 15 (100, [60]) := at_c h 15 rfl rfl
theorem at_16 {L : List Kd} (h : LKc L) : At L 16 (100, [60]) := at_c h 16 rfl rfl
theorem at_17 {L : List Kd} (h : LKc L) : At L 17 (100, [60]) := at_c h 17 rfl rfl
theorem at_18 {L : List Kd} (h : LKc L) : At L 18 (101, [32]) := at_c h 18 rfl rfl
theorem at_19 {L : List Kd} (h : LKc L) : At L 19 (105, [69, 86, 103]) := at_c h 19 rfl rfl
theorem at_20 {L : List Kd} (h : LKc L) : At L 20 (2, [(-1), (-1), (-1), (-1), (-1), (-1), (-1), (-1), (-1), (-1), (-1), 21, 22, 23, 24, 25, 26, 27, 28, 29]) := at_c h 20 rfl rfl
theorem at_21 {L : List Kd} (h : LKc L) : At L 21 (100, [60]) := at_c h 21 rfl rfl
theorem at_22 {L : List Kd} (h : LKc L) : At L 22 (100, [60]) := at_c h 22 rfl rfl
theorem at_23 {L : List Kd} (h : LKc L) : At L 23 (100, [12]) := at_c h 23 rfl rfl
theorem at_24 {L : List Kd} (h : LKc L) : At L 24 (101, [5]) := at_c h 24 rfl rfl
theorem at_25 {L : List Kd} (h : LKc L) : At L 25 (100, [5]) := at_c h 25 rfl rfl
theorem at_26 {L : List Kd} (h : LKc L) : At L 26 (100, [5]) := at_c h 26 rfl rfl
theorem at_27 {L : List Kd} (h : LKc L) : At L 27 (100, [5]) := at_c h 27 rfl rfl
theorem at_28 {L : List Kd} (h : LKc L) : At L 28 (100, [5]) := at_c h 28 rfl rfl
theorem at_29 {L : List Kd} (h : LKc L) : At L 29 (100, [5]) := at_c h 29 rfl rfl
theorem at_30 {L : List Kd} (h : LKc L) : At L 30 (4, [(-1), (-1), 31, 32, 33, 34]) := at_c h 30 rfl rfl
theorem at_31 {L : List Kd} (h : LKc L) : At L 31 (100, [60]) := at_c h 31 rfl rfl
theorem at_32 {L : List Kd} (h : LKc L) : At L 32 (100, [60]) := at_c h 32 rfl rfl
theorem at_33 {L : List Kd} (h : LKc L) : At L 33 (100, [60]) := at_c h 33 rfl rfl
theorem at_34 {L : List Kd} (h : LKc L) : At L 34 (100, [60]) := at_c h 34 rfl rfl
theorem at_35 {L : List Kd} (h : LKc L) : At L 35 (8, [36, (-1), (-1), (-1), (-1), (-1), (-2), (-1), (-1), (-1), (-1)]) := at_c h 35 rfl rfl
theorem at_36 {L : List Kd} (h : LKc L) : At L 36 (102, [900]) := at_c h 36 rfl rfl
theorem at_37 {L : List Kd} (h : LKc L) : At L 37 (3, [35, (-3), (-1), (-1), (-1), (-1), (-1)]) := at_c h 37 rfl rfl
theorem at_38 {L : List Kd} (h : LKc L) : At L 38 (5, [35, 39, (-3), (-3), (-1)]) := at_c h 38 rfl rfl
theorem at_39 {L : List Kd} (h : LKc L) : At L 39 (100, [3]) := at_c h 39 rfl rfl
theorem at_40 {L : List Kd} (h : LKc L) : At L 40 (9, [41]) := at_c h 40 rfl rfl
theorem at_41 {L : List Kd} (h : LKc L) : At L 41 (101, [32]) := at_c h 41 rfl rfl
theorem at_42 {L : List Kd} (h : LKc L) : At L 42 (1, [43, 44, (-1), 45, 46, 47, 48, (-1), (-1), (-1), (-2), (-3), (-1), (-1), (-1), (-1), (-2), (-2), (-2)]) := at_c h 42 rfl rfl
theorem at_43 {L : List Kd} (h : LKc L) : At L 43 (103, [32]) := at_c h 43 rfl rfl
theorem at_44 {L : List Kd} (h : LKc L) : At L 44 (100, [32]) := at_c h 44 rfl rfl
theorem at_45 {L : List Kd} (h : LKc L) : At L 45 (101, [32]) := at_c h 45 rfl rfl
theorem at_46 {L : List Kd} (h : LKc L) : At L 46 (101, [5]) := at_c h 46 rfl rfl
theorem at_47 {L : List Kd} (h : LKc L) : At L 47 (100, [480]) := at_c h 47 rfl rfl
theorem at_48 {L : List Kd} (h : LKc L) : At L 48 (100, [60]) := at_c h 48 rfl rfl
theorem at_49 {L : List Kd} (h : LKc L) : At L 49 (6, [42, 50, (-3), (-1), (-1)]) := at_c h 49 rfl rfl
theorem at_50 {L : List Kd} (h : LKc L) : At L 50 (106, [51, 52, 53, 54]) := at_c h 50 rfl rfl
theorem at_51 {L : List Kd} (h : LKc L) : At L 51 (101, [32]) := at_c h 51 rfl rfl
theorem at_52 {L : List Kd} (h : LKc L) : At L 52 (101, [32]) := at_c h 52 rfl rfl
theorem at_53 {L : List Kd} (h : LKc L) : At L 53 (101, [32]) := at_c h 53 rfl rfl
theorem at_54 {L : List Kd} (h : LKc L) : At L 54 (101, [32]) := at_c h 54 rfl rfl
theorem at_55 {L : List Kd} (h : LKc L) : At L 55 (0, [40, 42, 56, 57, 58, (-3), (-3), (-1), (-1), (-1), (-1), (-1)]) := at_c h 55 rfl rfl
theorem at_56 {L : List Kd} (h : LKc L) : At L 56 (100, [7]) := at_c h 56 rfl rfl
theorem at_57 {L : List Kd} (h : LKc L) : At L 57 (101, [32]) := at_c h 57 rfl rfl
theorem at_58 {L : List Kd} (h : LKc L) : At L 58 (100, [60]) := at_c h 58 rfl rfl
theorem at_59 {L : List Kd} (h : LKc L) : At L 59 (101, [32]) := at_c h 59 rfl rfl
theorem at_60 {L : List Kd} (h : LKc L) : At L 60 (100, [7]) := at_c h 60 rfl rfl
theorem at_61 {L : List Kd} (h : LKc L) : At L 61 (10, [62, (-1), (-1)]) := at_c h 61 rfl rfl
theorem at_62 {L : List Kd} (h : LKc L) : At L 62 (101, [60]) := at_c h 62 rfl rfl
theorem at_63 {L : List Kd} (h : LKc L) : At L 63 (10, [64, (-1), (-1)]) := at_c h 63 rfl rfl
theorem at_64 {L : List Kd} (h : LKc L) : At L 64 (101, [60]) := at_c h 64 rfl rfl
theorem at_65 {L : List Kd} (h : LKc L) : At L 65 (10, [66, (-1), (-1)]) := at_c h 65 rfl rfl
theorem at_66 {L : List Kd} (h : LKc L) : At L 66 (101, [60]) := at_c h 66 rfl rfl
theorem at_67 {L : List Kd} (h : LKc L) : At L 67 (10, [68, (-1), (-1)]) := at_c h 67 rfl rfl
theorem at_68 {L : List Kd} (h : LKc L) : At L 68 (101, [60]) := at_c h 68 rfl rfl
theorem at_69 {L : List Kd} (h : LKc L) : At L 69 (7, [(-3), (-3), 85, (-1), (-1)]) := at_c h 69 rfl rfl
theorem at_70 {L : List Kd} (h : LKc L) : At L 70 (2, [(-1), (-1), (-1), (-1), (-1), (-1), (-1), (-1), (-1), (-1), (-1), 71, 72, 73, 74, 75, 76, 77, 78, 79]) := at_c h 70 rfl rfl
theorem at_71 {L : List Kd} (h : LKc L) : At L 71 (100, [60]) := at_c h 71 rfl rfl
theorem at_72 {L : List Kd} (h : LKc L) : At L 72 (100, [60]) := at_c h 72 rfl rfl
theorem at_73 {L : List Kd} (h : LKc L) : At L 73 (100, [12]) := at_c h 73 rfl rfl
theorem at_74 {L : List Kd} (h : LKc L) : At L 74 (101, [5]) := at_c h 74 rfl rfl
theorem at_75 {L : List Kd} (h : LKc L) : At L 75 (100, [5]) := at_c h 75 rfl rfl
theorem at_76 {L : List Kd} (h : LKc L) : At L 76 (100, [5]) := at_c h 76 rfl rfl
theorem at_77 {L : List Kd} (h : LKc L) : At L 77 (100, [5]) := at_c h 77 rfl rfl
theorem at_78 {L : List Kd} (h : LKc L) : At L 78 (100, [5]) := at_c h 78 rfl rfl
theorem at_79 {L : List Kd} (h : LKc L) : At L 79 (100, [5]) := at_c h 79 rfl rfl
theorem at_80 {L : List Kd} (h : LKc L) : At L 80 (4, [(-1), (-1), 81, 82, 83, 84]) := at_c h 80 rfl rfl
theorem at_81 {L : List Kd} (h : LKc L) : At L 81 (100, [60]) := at_c h 81 rfl rfl
theorem at_82 {L : List Kd} (h : LKc L) : At L 82 (100, [60]) := at_c h 82 rfl rfl
theorem at_83 {L : List Kd} (h : LKc L) : At L 83 (100, [60]) := at_c h 83 rfl rfl
theorem at_84 {L : List Kd} (h : LKc L) : At L 84 (100, [60]) := at_c h 84 rfl rfl
theorem at_85 {L : List Kd} (h : LKc L) : At L 85 (101, [32]) := at_c h 85 rfl rfl
theorem at_86 {L : List Kd} (h : LKc L) : At L 86 (7, [(-3), (-3), 102, (-1), (-1)]) := at_c h 86 rfl rfl
theorem at_87 {L : List Kd} (h : LKc L) : At L 87 (2, [(-1), (-1), (-1), (-1), (-1), (-1), (-1), (-1), (-1), (-1), (-1), 88, 89, 90, 91, 92, 93, 94, 95, 96]) := at_c h 87 rfl rfl
theorem at_88 {L : List Kd} (h : LKc L) : At L 88 (100, [60]) := at_c h 88 rfl rfl
theorem at_89 {L : List Kd} (h : LKc L) : At L 89 (100, [60]) := at_c h 89 rfl rfl
theorem at_90 {L : List Kd} (h : LKc L) : At L 90 (100, [12]) := at_c h 90 rfl rfl
theorem at_91 {L : List Kd} (h : LKc L) : At L 91 (101, [5]) := at_c h 91 rfl rfl
theorem at_92 {L : List Kd} (h : LKc L) : At L 92 (100, [5]) := at_c h 92 rfl rfl
theorem at_93 {L : List Kd} (h : LKc L) : At L 93 (100, [5]) := at_c h 93 rfl rfl
theorem at_94 {L : List Kd} (h : LKc L) : At L 94 (100, [5]) := at_c h 94 rfl rfl
theorem at_95 {L : List Kd} (h : LKc L) : At L 95 (100, [5]) := at_c h 95 rfl rfl
theorem at_96 {L : List Kd} (h : LKc L) : At L 96 (100, [5]) := at_c h 96 rfl rfl
theorem at_97 {L : List Kd} (h : LKc L) : At L 97 (4, [(-1), (-1), 98, 99, 100, 101]) := at_c h 97 rfl rfl
theorem at_98 {L : List Kd} (h : LKc L) : At L 98 (100, [60]) := at_c h 98 rfl rfl
theorem at_99 {L : List Kd} (h : LKc L) : At L 99 (100, [60]) := at_c h 99 rfl rfl
theorem at_100 {L : List Kd} (h : LKc L) : At L 100 (100, [60]) := at_c h 100 rfl rfl
theorem at_101 {L : List Kd} (h : LKc L) : At L 101 (100, [60]) := at_c h 101 rfl rfl
theorem at_102 {L : List Kd} (h : LKc L) : At L 102 (101, [32]) := at_c h 102 rfl rfl
theorem at_103 {L : List Kd} (h : LKc L) : At L 103 (7, [(-3), (-3), 119, (-1), (-1)]) := at_c h 103 rfl rfl
theorem at_104 {L : List Kd} (h : LKc L) : At L 104 (2, [(-1), (-1), (-1), (-1), (-1), (-1), (-1), (-1), (-1), (-1), (-1), 105, 106, 107, 108, 109, 110, 111, 112, 113]) := at_c h 104 rfl rfl
theorem at_105 {L : List Kd} (h : LKc L) : At L 105 (100, [60]) := at_c h 105 rfl rfl
theorem at_106 {L : List Kd} (h : LKc L) : At L 106 (100, [60]) := at_c h 106 rfl rfl
theorem at_107 {L : List Kd} (h : LKc L) : At L 107 (100, [12]) := at_c h 107 rfl rfl
theorem at_108 {L : List Kd} (h : LKc L) : At L 108 (101, [5]) := at_c h 108 rfl rfl
theorem at_109 {L : List Kd} (h : LKc L) : At L 109 (100, [5]) := at_c h 109 rfl rfl
theorem at_110 {L : List Kd} (h : LKc L) : At L 110 (100, [5]) := at_c h 110 rfl rfl
theorem at_111 {L : List Kd} (h : LKc L) : At L 111 (100, [5]) := at_c h 111 rfl rfl
theorem at_112 {L : List Kd} (h : LKc L) : At L 112 (100, [5]) := at_c h 112 rfl rfl
theorem at_113 {L : List Kd} (h : LKc L) : At L 113 (100, [5]) := at_c h 113 rfl rfl
theorem at_114 {L : List Kd} (h : LKc L) : At L 114 (4, [(-1), (-1), 115, 116, 117, 118]) := at_c h 114 rfl rfl
theorem at_115 {L : List Kd} (h : LKc L) : At L 115 (100, [60]) := at_c h 115 rfl rfl
theorem at_116 {L : List Kd} (h : LKc L) : At L 116 (100, [60]) := at_c h 116 rfl rfl
theorem at_117 {L : List Kd} (h : LKc L) : At L 117 (100, [60]) := at_c h 117 rfl rfl
theorem at_118 {L : List Kd} (h : LKc L) : At L 118 (100, [60]) := at_c h 118 rfl rfl
theorem at_119 {L : List Kd} (h : LKc L) : At L 119 (101, [32]) := at_c h 119 rfl rfl
theorem at_120 {L : List Kd} (h : LKm L) : At L 120 (12, [121, 122, (-1), (-2), (-2), 123, 124, 125, 126, 127, (-1), (-1), (-1), (-1), (-1), (-1), (-1), (-1), (-1), (-1), (-1), 128, (-1), 129, (-1), (-1), 130, 131, 132, 133, 134, (-1), (-1), (-1), (-1), 135, (-1), 136, 137, (-1), (-1), (-1), (-1), (-1), (-1), (-1), (-1), (-1), (-1), (-1), 138, 139, (-1), (-1)]) := at_m h 120 rfl rfl
theorem at_121 {L : List Kd} (h : LKm L) : At L 121 (100, [2200]) := at_m h 121 rfl rfl
theorem at_122 {L : List Kd} (h : LKm L) : At L 122 (101, [25]) := at_m h 122 rfl rfl
theorem at_123 {L : List Kd} (h : LKm L) : At L 123 (100, [4]) := at_m h 123 rfl rfl
theorem at_124 {L : List Kd} (h : LKm L) : At L 124 (100, [4]) := at_m h 124 rfl rfl
theorem at_125 {L : List Kd} (h : LKm L) : At L 125 (101, [240]) := at_m h 125 rfl rfl
theorem at_126 {L : List Kd} (h : LKm L) : At L 126 (102, [900]) := at_m h 126 rfl rfl
theorem at_127 {L : List Kd} (h : LKm L) : At L 127 (102, [900]) := at_m h 127 rfl rfl
theorem at_128 {L : List Kd} (h : LKm L) : At L 128 (100, [4]) := at_m h 128 rfl rfl
theorem at_129 {L : List Kd} (h : LKm L) : At L 129 (100, [3]) := at_m h 129 rfl rfl
theorem at_130 {L : List Kd} (h : LKm L) : At L 130 (101, [32]) := at_m h 130 rfl rfl
theorem at_131 {L : List Kd} (h : LKm L) : At L 131 (101, [32]) := at_m h 131 rfl rfl
theorem at_132 {L : List Kd} (h : LKm L) : At L 132 (100, [540]) := at_m h 132 rfl rfl
theorem at_133 {L : List Kd} (h : LKm L) : At L 133 (103, [60]) := at_m h 133 rfl rfl
theorem at_134 {L : List Kd} (h : LKm L) : At L 134 (100, [32]) := at_m h 134 rfl rfl
theorem at_135 {L : List Kd} (h : LKm L) : At L 135 (100, [2000]) := at_m h 135 rfl rfl
theorem at_136 {L : List Kd} (h : LKm L) : At L 136 (101, [128]) := at_m h 136 rfl rfl
theorem at_137 {L : List Kd} (h : LKm L) : At L 137 (100, [32]) := at_m h 137 rfl rfl
theorem at_138 {L : List Kd} (h : LKm L) : At L 138 (100, [64]) := at_m h 138 rfl rfl
theorem at_139 {L : List Kd} (h : LKm L) : At L 139 (100, [7]) := at_m h 139 rfl rfl
def shR (r : Int) : List Int := [-1, -1, -1, -1, -1, -1, -1, -1, -1, -1, -1, r + 1, r + 2, r + 3, r + 4, r + 5, r + 6, r + 7, r + 8, r + 9]
def isRiver (L : List Kd) (r : Int) : Prop := At L r (2, shR r) ∧ At L (r + 1) (100, [60]) ∧ At L (r + 2) (100, [60]) ∧ At L (r + 3) (100, [12]) ∧ At L (r + 4) (101, [5]) ∧ At L (r + 5) (100, [5]) ∧ At L (r + 6) (100, [5]) ∧ At L (r + 7) (100, [5]) ∧ At L (r + 8) (100, [5]) ∧ At L (r + 9) (100, [5])
theorem rv_0 {L : List Kd} {r : Int} (h : isRiver L r) : At L r (2, shR r) := h.1
theorem rv_1 {L : List Kd} {r : Int} (h : isRiver L r) : At L (r + 1) (100, [60]) := h.2.1
theorem rv_2 {L : List Kd} {r : Int} (h : isRiver L r) : At L (r + 2) (100, [60]) := h.2.2.1
theorem rv_3 {L : List Kd} {r : Int} (h : isRiver L r) : At L (r + 3) (100, [12]) := h.2.2.2.1
theorem rv_4 {L : List Kd} {r : Int} (h : isRiver L r) : At L (r + 4) (101, [5]) := h.2.2.2.2.1
theorem rv_5 {L : List Kd} {r : Int} (h : isRiver L r) : At L (r + 5) (100, [5]) := h.2.2.2.2.2.1
theorem rv_6 {L : List Kd} {r : Int} (h : isRiver L r) : At L (r + 6) (100, [5]) := h.2.2.2.2.2.2.1
theorem rv_7 {L : List Kd} {r : Int} (h : isRiver L r) : At L (r + 7) (100, [5]) := h.2.2.2.2.2.2.2.1
theorem rv_8 {L : List Kd} {r : Int} (h : isRiver L r) : At L (r + 8) (100, [5]) := h.2.2.2.2.2.2.2.2.1
theorem rv_9 {L : List Kd} {r : Int} (h : isRiver L r) : At L (r + 9) (100, [5]) := h.2.2.2.2.2.2.2.2.2
def isRule (L : List Kd) (r : Int) : Prop := At L r (4, [-1, -1, r + 1, r + 2, r + 3, r + 4]) ∧ At L (r + 1) (100, [60]) ∧ At L (r + 2) (100, [60]) ∧ At L (r + 3) (100, [60]) ∧ At L (r + 4) (100, [60])
theorem ru_0 {L : List Kd} {r : Int} (h : isRule L r) : At L r (4, [-1, -1, r + 1, r + 2, r + 3, r + 4]) := h.1
theorem ru_1 {L : List Kd} {r : Int} (h : isRule L r) : At L (r + 1) (100, [60]) := h.2.1
theorem ru_2 {L : List Kd} {r : Int} (h : isRule L r) : At L (r + 2) (100, [60]) := h.2.2.1
theorem ru_3 {L : List Kd} {r : Int} (h : isRule L r) : At L (r + 3) (100, [60]) := h.2.2.2.1
theorem ru_4 {L : List Kd} {r : Int} (h : isRule L r) : At L (r + 4) (100, [60]) := h.2.2.2.2
def isState (L : List Kd) (r : Int) : Prop := At L r (7, [-3, -3, r + 16, -1, -1]) ∧ At L (r + 16) (101, [32])
theorem sa_0 {L : List Kd} {r : Int} (h : isState L r) : At L r (7, [-3, -3, r + 16, -1, -1]) := h.1
theorem sa_16 {L : List Kd} {r : Int} (h : isState L r) : At L (r + 16) (101, [32]) := h.2
def isTray (L : List Kd) (r : Int) : Prop := At L r (10, [r + 1, -1, -1]) ∧ At L (r + 1) (101, [60])
theorem ty_0 {L : List Kd} {r : Int} (h : isTray L r) : At L r (10, [r + 1, -1, -1]) := h.1
theorem ty_1 {L : List Kd} {r : Int} (h : isTray L r) : At L (r + 1) (101, [60]) := h.2
def RIV : List Int := [3, 20, 70, 87, 104]
def RUL : List Int := [13, 30, 80, 97, 114]
def STA : List Int := [2, 69, 86, 103]
def TRA : List Int := [61, 63, 65, 67]
def WTS : List Int := [51, 52, 53, 54]
def MST : List Int := [69, 86, 103]
theorem riv_of {L : List Kd} (hL : LKc L) {r : Int} (h : r ∈ RIV) : isRiver L r := by
  simp only [RIV, List.mem_cons, List.not_mem_nil, or_false] at h
  rcases h with rfl | rfl | rfl | rfl | rfl
  · exact ⟨at_3 hL, at_4 hL, at_5 hL, at_6 hL, at_7 hL, at_8 hL, at_9 hL, at_10 hL, at_11 hL, at_12 hL⟩
  · exact ⟨at_20 hL, at_21 hL, at_22 hL, at_23 hL, at_24 hL, at_25 hL, at_26 hL, at_27 hL, at_28 hL, at_29 hL⟩
  · exact ⟨at_70 hL, at_71 hL, at_72 hL, at_73 hL, at_74 hL, at_75 hL, at_76 hL, at_77 hL, at_78 hL, at_79 hL⟩
  · exact ⟨at_87 hL, at_88 hL, at_89 hL, at_90 hL, at_91 hL, at_92 hL, at_93 hL, at_94 hL, at_95 hL, at_96 hL⟩
  · exact ⟨at_104 hL, at_105 hL, at_106 hL, at_107 hL, at_108 hL, at_109 hL, at_110 hL, at_111 hL, at_112 hL, at_113 hL⟩
theorem rul_of {L : List Kd} (hL : LKc L) {r : Int} (h : r ∈ RUL) : isRule L r := by
  simp only [RUL, List.mem_cons, List.not_mem_nil, or_false] at h
  rcases h with rfl | rfl | rfl | rfl | rfl
  · exact ⟨at_13 hL, at_14 hL, at_15 hL, at_16 hL, at_17 hL⟩
  · exact ⟨at_30 hL, at_31 hL, at_32 hL, at_33 hL, at_34 hL⟩
  · exact ⟨at_80 hL, at_81 hL, at_82 hL, at_83 hL, at_84 hL⟩
  · exact ⟨at_97 hL, at_98 hL, at_99 hL, at_100 hL, at_101 hL⟩
  · exact ⟨at_114 hL, at_115 hL, at_116 hL, at_117 hL, at_118 hL⟩
theorem sta_of {L : List Kd} (hL : LKc L) {r : Int} (h : r ∈ STA) : isState L r := by
  simp only [STA, List.mem_cons, List.not_mem_nil, or_false] at h
  rcases h with rfl | rfl | rfl | rfl
  · exact ⟨at_2 hL, at_18 hL⟩
  · exact ⟨at_69 hL, at_85 hL⟩
  · exact ⟨at_86 hL, at_102 hL⟩
  · exact ⟨at_103 hL, at_119 hL⟩
theorem mst_of {L : List Kd} (hL : LKc L) {r : Int} (h : r ∈ MST) : isState L r := by
  simp only [MST, List.mem_cons, List.not_mem_nil, or_false] at h
  rcases h with rfl | rfl | rfl
  · exact ⟨at_69 hL, at_85 hL⟩
  · exact ⟨at_86 hL, at_102 hL⟩
  · exact ⟨at_103 hL, at_119 hL⟩
theorem tra_of {L : List Kd} (hL : LKc L) {r : Int} (h : r ∈ TRA) : isTray L r := by
  simp only [TRA, List.mem_cons, List.not_mem_nil, or_false] at h
  rcases h with rfl | rfl | rfl | rfl
  · exact ⟨at_61 hL, at_62 hL⟩
  · exact ⟨at_63 hL, at_64 hL⟩
  · exact ⟨at_65 hL, at_66 hL⟩
  · exact ⟨at_67 hL, at_68 hL⟩
theorem wts_of {L : List Kd} (hL : LKc L) {r : Int} (h : r ∈ WTS) : At L r (101, [32]) := by
  simp only [WTS, List.mem_cons, List.not_mem_nil, or_false] at h
  rcases h with rfl | rfl | rfl | rfl
  · exact at_51 hL
  · exact at_52 hL
  · exact at_53 hL
  · exact at_54 hL
theorem add_nn {L : List Kd} {r k : Int} {K : Kd} (h : At L r K) (hk : 0 ≤ k := by decide) : 0 ≤ r + k := Int.add_nonneg h.1 hk
theorem cf_X0 : Cf 0 RX0 TX0 12 tyX0 := ⟨rfl, inRX0, tyX0_ok, nmX0⟩
theorem cf_X1 : Cf 1 RX1 TX1 19 tyX1 := ⟨rfl, inRX1, tyX1_ok, nmX1⟩
theorem cf_X2 : Cf 2 RX2 TX2 20 tyX2 := ⟨rfl, inRX2, tyX2_ok, nmX2⟩
theorem cf_X3 : Cf 3 RX3 TX3 7 tyX3 := ⟨rfl, inRX3, tyX3_ok, nmX3⟩
theorem cf_X4 : Cf 4 RX4 TX4 6 tyX4 := ⟨rfl, inRX4, tyX4_ok, nmX4⟩
theorem cf_X5 : Cf 5 RX5 TX5 5 tyX5 := ⟨rfl, inRX5, tyX5_ok, nmX5⟩
theorem cf_X6 : Cf 6 RX6 TX6 5 tyX6 := ⟨rfl, inRX6, tyX6_ok, nmX6⟩
theorem cf_X7 : Cf 7 RX7 TX7 5 tyX7 := ⟨rfl, inRX7, tyX7_ok, nmX7⟩
theorem cf_X8 : Cf 8 RX8 TX8 11 tyX8 := ⟨rfl, inRX8, tyX8_ok, nmX8⟩
theorem cf_X9 : Cf 9 RX9 TX9 1 tyX9 := ⟨rfl, inRX9, tyX9_ok, nmX9⟩
theorem cf_X10 : Cf 10 RX10 TX10 3 tyX10 := ⟨rfl, inRX10, tyX10_ok, nmX10⟩
theorem cf_X11 : Cf 11 RX11 TX11 19 tyX11 := ⟨rfl, inRX11, tyX11_ok, nmX11⟩
theorem cf_X12 : Cf 12 RX12 TX12 54 tyX12 := ⟨rfl, inRX12, tyX12_ok, nmX12⟩
theorem mv_X2_clear : Mv yX2_clear RX2 cX2_clear 1 none 0 := ⟨wi_yX2_clear, wsel_yX2_clear, wini_RX2, wc_yX2_clear, by decide +kernel⟩
theorem mt_J7_fill_53178 : Mst yJ7_fill_53178 cJ7_fill_53178 4 none 2 := ⟨wst_yJ7_fill_53178, wini_RJ7, wc_yJ7_fill_53178, by decide +kernel⟩
theorem mv_X9_think : Mv yX9_think RX9 cX9_think 6 none 2 := ⟨wi_yX9_think, wsel_yX9_think, wini_RX9, wc_yX9_think, by decide +kernel⟩
theorem mt_J7_fill_d0a16 : Mst yJ7_fill_d0a16 cJ7_fill_d0a16 5 none 2 := ⟨wst_yJ7_fill_d0a16, wini_RJ7, wc_yJ7_fill_d0a16, by decide +kernel⟩
theorem mv_X2_setCount : Mv yX2_setCount RX2 cX2_setCount 1 (some .int) 0 := ⟨wi_yX2_setCount, wsel_yX2_setCount, wini_RX2, wc_yX2_setCount, by decide +kernel⟩
theorem mv_X9_shareOut : Mv yX9_shareOut RX9 cX9_shareOut 8 (some .boolean) 1 := ⟨wi_yX9_shareOut, wsel_yX9_shareOut, wini_RX9, wc_yX9_shareOut, by decide +kernel⟩
theorem mv_X12_plain : Mv yX12_plain RX12 cX12_plain 3 none 1 := ⟨wi_yX12_plain, wsel_yX12_plain, wini_RX12, wc_yX12_plain, by decide +kernel⟩
theorem mv_X11_status : Mv yX11_status RX11 cX11_status 1 (some .int) 0 := ⟨wi_yX11_status, wsel_yX11_status, wini_RX11, wc_yX11_status, by decide +kernel⟩
theorem mv_X12_status : Mv yX12_status RX12 cX12_status 1 (some .int) 0 := ⟨wi_yX12_status, wsel_yX12_status, wini_RX12, wc_yX12_status, by decide +kernel⟩
theorem mv_X11_top : Mv yX11_top RX11 cX11_top 1 (some .long) 0 := ⟨wi_yX11_top, wsel_yX11_top, wini_RX11, wc_yX11_top, by decide +kernel⟩
theorem mv_X12_top : Mv yX12_top RX12 cX12_top 1 (some .long) 0 := ⟨wi_yX12_top, wsel_yX12_top, wini_RX12, wc_yX12_top, by decide +kernel⟩
theorem mv_X11_bottom : Mv yX11_bottom RX11 cX11_bottom 1 (some .long) 0 := ⟨wi_yX11_bottom, wsel_yX11_bottom, wini_RX11, wc_yX11_bottom, by decide +kernel⟩
theorem mv_X12_bottom : Mv yX12_bottom RX12 cX12_bottom 1 (some .long) 0 := ⟨wi_yX12_bottom, wsel_yX12_bottom, wini_RX12, wc_yX12_bottom, by decide +kernel⟩
theorem mv_X11_tray : Mv yX11_tray RX11 cX11_tray 4 (some .boolean) 3 := ⟨wi_yX11_tray, wsel_yX11_tray, wini_RX11, wc_yX11_tray, by decide +kernel⟩
theorem mt_X11_isTray : Mst yX11_isTray cX11_isTray 1 (some .boolean) 1 := ⟨wst_yX11_isTray, wini_RX11, wc_yX11_isTray, by decide +kernel⟩
theorem mv_X11_refuse : Mv yX11_refuse RX11 cX11_refuse 2 (some .boolean) 1 := ⟨wi_yX11_refuse, wsel_yX11_refuse, wini_RX11, wc_yX11_refuse, by decide +kernel⟩
theorem mv_X10_lay : Mv yX10_lay RX10 cX10_lay 3 none 2 := ⟨wi_yX10_lay, wsel_yX10_lay, wini_RX10, wc_yX10_lay, by decide +kernel⟩
theorem mv_X11_agree : Mv yX11_agree RX11 cX11_agree 1 (some .boolean) 0 := ⟨wi_yX11_agree, wsel_yX11_agree, wini_RX11, wc_yX11_agree, by decide +kernel⟩
theorem mv_X12_tray : Mv yX12_tray RX12 cX12_tray 5 (some .boolean) 3 := ⟨wi_yX12_tray, wsel_yX12_tray, wini_RX12, wc_yX12_tray, by decide +kernel⟩
theorem mt_X12_isTray : Mst yX12_isTray cX12_isTray 1 (some .boolean) 1 := ⟨wst_yX12_isTray, wini_RX12, wc_yX12_isTray, by decide +kernel⟩
theorem mv_X12_is : Mv yX12_is RX12 cX12_is 2 (some .boolean) 1 := ⟨wi_yX12_is, wsel_yX12_is, wini_RX12, wc_yX12_is, by decide +kernel⟩
theorem mv_X11_write : Mv yX11_write RX11 cX11_write 7 (some .boolean) 3 := ⟨wi_yX11_write, wsel_yX11_write, wini_RX11, wc_yX11_write, by decide +kernel⟩
theorem mv_X11_placeStatus : Mv yX11_placeStatus RX11 cX11_placeStatus 3 (some .int) 2 := ⟨wi_yX11_placeStatus, wsel_yX11_placeStatus, wini_RX11, wc_yX11_placeStatus, by decide +kernel⟩
theorem mv_X10_isMissing : Mv yX10_isMissing RX10 cX10_isMissing 1 (some .boolean) 0 := ⟨wi_yX10_isMissing, wsel_yX10_isMissing, wini_RX10, wc_yX10_isMissing, by decide +kernel⟩
theorem mv_X10_cut : Mv yX10_cut RX10 cX10_cut 3 (some .long) 1 := ⟨wi_yX10_cut, wsel_yX10_cut, wini_RX10, wc_yX10_cut, by decide +kernel⟩
theorem mv_X12_write : Mv yX12_write RX12 cX12_write 6 (some .boolean) 3 := ⟨wi_yX12_write, wsel_yX12_write, wini_RX12, wc_yX12_write, by decide +kernel⟩
theorem mv_X12_wrongPlace : Mv yX12_wrongPlace RX12 cX12_wrongPlace 3 (some .int) 2 := ⟨wi_yX12_wrongPlace, wsel_yX12_wrongPlace, wini_RX12, wc_yX12_wrongPlace, by decide +kernel⟩
theorem mt_X12_cut : Mst yX12_cut cX12_cut 3 (some .long) 2 := ⟨wst_yX12_cut, wini_RX12, wc_yX12_cut, by decide +kernel⟩
theorem mv_X11_read : Mv yX11_read RX11 cX11_read 4 (some .long) 2 := ⟨wi_yX11_read, wsel_yX11_read, wini_RX11, wc_yX11_read, by decide +kernel⟩
theorem mv_X11_fail : Mv yX11_fail RX11 cX11_fail 2 (some .int) 1 := ⟨wi_yX11_fail, wsel_yX11_fail, wini_RX11, wc_yX11_fail, by decide +kernel⟩
theorem mv_X12_read : Mv yX12_read RX12 cX12_read 3 (some .long) 2 := ⟨wi_yX12_read, wsel_yX12_read, wini_RX12, wc_yX12_read, by decide +kernel⟩
theorem mv_X11_pour : Mv yX11_pour RX11 cX11_pour 8 (some .boolean) 5 := ⟨wi_yX11_pour, wsel_yX11_pour, wini_RX11, wc_yX11_pour, by decide +kernel⟩
theorem mv_X10_holds : Mv yX10_holds RX10 cX10_holds 3 (some .boolean) 2 := ⟨wi_yX10_holds, wsel_yX10_holds, wini_RX10, wc_yX10_holds, by decide +kernel⟩
theorem mv_X12_pour : Mv yX12_pour RX12 cX12_pour 8 (some .boolean) 5 := ⟨wi_yX12_pour, wsel_yX12_pour, wini_RX12, wc_yX12_pour, by decide +kernel⟩
theorem mv_X11_feed : Mv yX11_feed RX11 cX11_feed 6 (some .int) 5 := ⟨wi_yX11_feed, wsel_yX11_feed, wini_RX11, wc_yX11_feed, by decide +kernel⟩
theorem mv_X8_append : Mv yX8_append RX8 cX8_append 3 none 1 := ⟨wi_yX8_append, wsel_yX8_append, wini_RX8, wc_yX8_append, by decide +kernel⟩
theorem mv_X12_feed : Mv yX12_feed RX12 cX12_feed 6 (some .int) 5 := ⟨wi_yX12_feed, wsel_yX12_feed, wini_RX12, wc_yX12_feed, by decide +kernel⟩
theorem mv_X12_four : Mv yX12_four RX12 cX12_four 3 none 1 := ⟨wi_yX12_four, wsel_yX12_four, wini_RX12, wc_yX12_four, by decide +kernel⟩
theorem mv_X11_river : Mv yX11_river RX11 cX11_river 4 (some .int) 1 := ⟨wi_yX11_river, wsel_yX11_river, wini_RX11, wc_yX11_river, by decide +kernel⟩
theorem mv_X3_parse : Mv yX3_parse RX3 cX3_parse 4 (some .boolean) 2 := ⟨wi_yX3_parse, wsel_yX3_parse, wini_RX3, wc_yX3_parse, by decide +kernel⟩
theorem mv_X8_start : Mv yX8_start RX8 cX8_start 2 none 1 := ⟨wi_yX8_start, wsel_yX8_start, wini_RX8, wc_yX8_start, by decide +kernel⟩
theorem mv_X8_advance : Mv yX8_advance RX8 cX8_advance 2 none 0 := ⟨wi_yX8_advance, wsel_yX8_advance, wini_RX8, wc_yX8_advance, by decide +kernel⟩
theorem mt_X8_kindOfByte : Mst yX8_kindOfByte cX8_kindOfByte 1 (some .int) 1 := ⟨wst_yX8_kindOfByte, wini_RX8, wc_yX8_kindOfByte, by decide +kernel⟩
theorem mv_X3_takeSize : Mv yX3_takeSize RX3 cX3_takeSize 1 (some .boolean) 0 := ⟨wi_yX3_takeSize, wsel_yX3_takeSize, wini_RX3, wc_yX3_takeSize, by decide +kernel⟩
theorem mv_X8_takePair : Mv yX8_takePair RX8 cX8_takePair 4 (some .boolean) 3 := ⟨wi_yX8_takePair, wsel_yX8_takePair, wini_RX8, wc_yX8_takePair, by decide +kernel⟩
theorem mv_X8_takeWord : Mv yX8_takeWord RX8 cX8_takeWord 2 (some .boolean) 1 := ⟨wi_yX8_takeWord, wsel_yX8_takeWord, wini_RX8, wc_yX8_takeWord, by decide +kernel⟩
theorem mv_X8_is : Mv yX8_is RX8 cX8_is 4 (some .boolean) 1 := ⟨wi_yX8_is, wsel_yX8_is, wini_RX8, wc_yX8_is, by decide +kernel⟩
theorem mv_J0_length_8abf5 : Mv yJ0_length_8abf5 RJ0 cJ0_length_8abf5 1 (some .int) 0 := ⟨wi_yJ0_length_8abf5, wsel_yJ0_length_8abf5, wini_RJ0, wc_yJ0_length_8abf5, by decide +kernel⟩
theorem mv_J0_coder_7d493 : Mv yJ0_coder_7d493 RJ0 cJ0_coder_7d493 1 (some .byte) 0 := ⟨wi_yJ0_coder_7d493, wsel_yJ0_coder_7d493, wini_RJ0, wc_yJ0_coder_7d493, by decide +kernel⟩
theorem mv_J0_charAt_5068e : Mv yJ0_charAt_5068e RJ0 cJ0_charAt_5068e 2 (some .char) 1 := ⟨wi_yJ0_charAt_5068e, wsel_yJ0_charAt_5068e, wini_RJ0, wc_yJ0_charAt_5068e, by decide +kernel⟩
theorem mv_J0_isLatin1_aae02 : Mv yJ0_isLatin1_aae02 RJ0 cJ0_isLatin1_aae02 1 (some .boolean) 0 := ⟨wi_yJ0_isLatin1_aae02, wsel_yJ0_isLatin1_aae02, wini_RJ0, wc_yJ0_isLatin1_aae02, by decide +kernel⟩
theorem mt_J1_charAt_3b067 : Mst yJ1_charAt_3b067 cJ1_charAt_3b067 2 (some .char) 2 := ⟨wst_yJ1_charAt_3b067, wini_RJ1, wc_yJ1_charAt_3b067, by decide +kernel⟩
theorem mt_J0_checkIndex_df160 : Mst yJ0_checkIndex_df160 cJ0_checkIndex_df160 2 none 2 := ⟨wst_yJ0_checkIndex_df160, wini_RJ0, wc_yJ0_checkIndex_df160, by decide +kernel⟩
theorem mt_J3_checkIndex_8e157 : Mst yJ3_checkIndex_8e157 cJ3_checkIndex_8e157 3 (some .int) 3 := ⟨wst_yJ3_checkIndex_8e157, wini_RJ3, wc_yJ3_checkIndex_8e157, by decide +kernel⟩
theorem mt_J2_charAt_3b067 : Mst yJ2_charAt_3b067 cJ2_charAt_3b067 2 (some .char) 2 := ⟨wst_yJ2_charAt_3b067, wini_RJ2, wc_yJ2_charAt_3b067, by decide +kernel⟩
theorem mt_J2_checkIndex_2214a : Mst yJ2_checkIndex_2214a cJ2_checkIndex_2214a 2 none 2 := ⟨wst_yJ2_checkIndex_2214a, wini_RJ2, wc_yJ2_checkIndex_2214a, by decide +kernel⟩
theorem mt_J2_length_9d52b : Mst yJ2_length_9d52b cJ2_length_9d52b 1 (some .int) 1 := ⟨wst_yJ2_length_9d52b, wini_RJ2, wc_yJ2_length_9d52b, by decide +kernel⟩
theorem mt_J2_getChar_3b067 : Mst yJ2_getChar_3b067 cJ2_getChar_3b067 2 (some .char) 2 := ⟨wst_yJ2_getChar_3b067, wini_RJ2, wc_yJ2_getChar_3b067, by decide +kernel⟩
theorem mv_X8_failHere : Mv yX8_failHere RX8 cX8_failHere 1 (some .boolean) 0 := ⟨wi_yX8_failHere, wsel_yX8_failHere, wini_RX8, wc_yX8_failHere, by decide +kernel⟩
theorem mv_X8_takeNumber : Mv yX8_takeNumber RX8 cX8_takeNumber 3 (some .boolean) 2 := ⟨wi_yX8_takeNumber, wsel_yX8_takeNumber, wini_RX8, wc_yX8_takeNumber, by decide +kernel⟩
theorem mv_X8_isNumber : Mv yX8_isNumber RX8 cX8_isNumber 3 (some .boolean) 2 := ⟨wi_yX8_isNumber, wsel_yX8_isNumber, wini_RX8, wc_yX8_isNumber, by decide +kernel⟩
theorem mv_X8_fail : Mv yX8_fail RX8 cX8_fail 2 (some .boolean) 1 := ⟨wi_yX8_fail, wsel_yX8_fail, wini_RX8, wc_yX8_fail, by decide +kernel⟩
theorem mv_X8_takeSign : Mv yX8_takeSign RX8 cX8_takeSign 1 (some .boolean) 0 := ⟨wi_yX8_takeSign, wsel_yX8_takeSign, wini_RX8, wc_yX8_takeSign, by decide +kernel⟩
theorem mv_X3_takePart : Mv yX3_takePart RX3 cX3_takePart 1 (some .boolean) 0 := ⟨wi_yX3_takePart, wsel_yX3_takePart, wini_RX3, wc_yX3_takePart, by decide +kernel⟩
theorem mv_X3_takeRow : Mv yX3_takeRow RX3 cX3_takeRow 2 (some .boolean) 0 := ⟨wi_yX3_takeRow, wsel_yX3_takeRow, wini_RX3, wc_yX3_takeRow, by decide +kernel⟩
theorem mv_X3_takeBar : Mv yX3_takeBar RX3 cX3_takeBar 2 (some .boolean) 0 := ⟨wi_yX3_takeBar, wsel_yX3_takeBar, wini_RX3, wc_yX3_takeBar, by decide +kernel⟩
theorem mv_X8_isName : Mv yX8_isName RX8 cX8_isName 1 (some .boolean) 0 := ⟨wi_yX8_isName, wsel_yX8_isName, wini_RX8, wc_yX8_isName, by decide +kernel⟩
theorem mv_X8_isReserved : Mv yX8_isReserved RX8 cX8_isReserved 5 (some .boolean) 0 := ⟨wi_yX8_isReserved, wsel_yX8_isReserved, wini_RX8, wc_yX8_isReserved, by decide +kernel⟩
theorem mv_X2_barNamed : Mv yX2_barNamed RX2 cX2_barNamed 4 (some .int) 1 := ⟨wi_yX2_barNamed, wsel_yX2_barNamed, wini_RX2, wc_yX2_barNamed, by decide +kernel⟩
theorem mv_X3_takeAt : Mv yX3_takeAt RX3 cX3_takeAt 5 (some .boolean) 0 := ⟨wi_yX3_takeAt, wsel_yX3_takeAt, wini_RX3, wc_yX3_takeAt, by decide +kernel⟩
theorem mv_X3_giveCells : Mv yX3_giveCells RX3 cX3_giveCells 9 (some .boolean) 5 := ⟨wi_yX3_giveCells, wsel_yX3_giveCells, wini_RX3, wc_yX3_giveCells, by decide +kernel⟩
theorem mv_X3_takeStage : Mv yX3_takeStage RX3 cX3_takeStage 3 (some .boolean) 0 := ⟨wi_yX3_takeStage, wsel_yX3_takeStage, wini_RX3, wc_yX3_takeStage, by decide +kernel⟩
theorem mv_X3_takeBoat : Mv yX3_takeBoat RX3 cX3_takeBoat 1 (some .boolean) 0 := ⟨wi_yX3_takeBoat, wsel_yX3_takeBoat, wini_RX3, wc_yX3_takeBoat, by decide +kernel⟩
theorem mv_X3_takePole : Mv yX3_takePole RX3 cX3_takePole 1 (some .boolean) 0 := ⟨wi_yX3_takePole, wsel_yX3_takePole, wini_RX3, wc_yX3_takePole, by decide +kernel⟩
theorem mv_X3_takeColour : Mv yX3_takeColour RX3 cX3_takeColour 1 (some .boolean) 0 := ⟨wi_yX3_takeColour, wsel_yX3_takeColour, wini_RX3, wc_yX3_takeColour, by decide +kernel⟩
theorem mv_X11_startAfresh : Mv yX11_startAfresh RX11 cX11_startAfresh 1 none 0 := ⟨wi_yX11_startAfresh, wsel_yX11_startAfresh, wini_RX11, wc_yX11_startAfresh, by decide +kernel⟩
theorem mv_X2_cellCount : Mv yX2_cellCount RX2 cX2_cellCount 1 (some .int) 0 := ⟨wi_yX2_cellCount, wsel_yX2_cellCount, wini_RX2, wc_yX2_cellCount, by decide +kernel⟩
theorem mv_X11_answer : Mv yX11_answer RX11 cX11_answer 2 (some .int) 1 := ⟨wi_yX11_answer, wsel_yX11_answer, wini_RX11, wc_yX11_answer, by decide +kernel⟩
theorem mv_X12_river : Mv yX12_river RX12 cX12_river 4 (some .int) 1 := ⟨wi_yX12_river, wsel_yX12_river, wini_RX12, wc_yX12_river, by decide +kernel⟩
theorem mv_X12_begins : Mv yX12_begins RX12 cX12_begins 4 (some .boolean) 2 := ⟨wi_yX12_begins, wsel_yX12_begins, wini_RX12, wc_yX12_begins, by decide +kernel⟩
theorem mv_X12_ahead : Mv yX12_ahead RX12 cX12_ahead 2 none 0 := ⟨wi_yX12_ahead, wsel_yX12_ahead, wini_RX12, wc_yX12_ahead, by decide +kernel⟩
theorem mv_X12_byteAt : Mv yX12_byteAt RX12 cX12_byteAt 2 (some .int) 1 := ⟨wi_yX12_byteAt, wsel_yX12_byteAt, wini_RX12, wc_yX12_byteAt, by decide +kernel⟩
theorem mt_X12_isSmall : Mst yX12_isSmall cX12_isSmall 1 (some .boolean) 1 := ⟨wst_yX12_isSmall, wini_RX12, wc_yX12_isSmall, by decide +kernel⟩
theorem mt_X12_isDigit : Mst yX12_isDigit cX12_isDigit 1 (some .boolean) 1 := ⟨wst_yX12_isDigit, wini_RX12, wc_yX12_isDigit, by decide +kernel⟩
theorem mv_X12_refuse : Mv yX12_refuse RX12 cX12_refuse 2 (some .int) 1 := ⟨wi_yX12_refuse, wsel_yX12_refuse, wini_RX12, wc_yX12_refuse, by decide +kernel⟩
theorem mv_X12_wantWord : Mv yX12_wantWord RX12 cX12_wantWord 3 (some .boolean) 2 := ⟨wi_yX12_wantWord, wsel_yX12_wantWord, wini_RX12, wc_yX12_wantWord, by decide +kernel⟩
theorem mv_X12_inWords : Mv yX12_inWords RX12 cX12_inWords 7 (some .int) 1 := ⟨wi_yX12_inWords, wsel_yX12_inWords, wini_RX12, wc_yX12_inWords, by decide +kernel⟩
theorem mv_X12_fails : Mv yX12_fails RX12 cX12_fails 2 (some .boolean) 1 := ⟨wi_yX12_fails, wsel_yX12_fails, wini_RX12, wc_yX12_fails, by decide +kernel⟩
theorem mv_X12_number : Mv yX12_number RX12 cX12_number 4 (some .boolean) 3 := ⟨wi_yX12_number, wsel_yX12_number, wini_RX12, wc_yX12_number, by decide +kernel⟩
theorem mv_X12_wantSign : Mv yX12_wantSign RX12 cX12_wantSign 2 (some .boolean) 1 := ⟨wi_yX12_wantSign, wsel_yX12_wantSign, wini_RX12, wc_yX12_wantSign, by decide +kernel⟩
theorem mv_X12_isSign : Mv yX12_isSign RX12 cX12_isSign 2 (some .boolean) 1 := ⟨wi_yX12_isSign, wsel_yX12_isSign, wini_RX12, wc_yX12_isSign, by decide +kernel⟩
theorem mv_X12_riverPart : Mv yX12_riverPart RX12 cX12_riverPart 3 (some .boolean) 0 := ⟨wi_yX12_riverPart, wsel_yX12_riverPart, wini_RX12, wc_yX12_riverPart, by decide +kernel⟩
theorem mv_X12_aRow : Mv yX12_aRow RX12 cX12_aRow 2 (some .boolean) 0 := ⟨wi_yX12_aRow, wsel_yX12_aRow, wini_RX12, wc_yX12_aRow, by decide +kernel⟩
theorem mv_X12_aBar : Mv yX12_aBar RX12 cX12_aBar 4 (some .boolean) 0 := ⟨wi_yX12_aBar, wsel_yX12_aBar, wini_RX12, wc_yX12_aBar, by decide +kernel⟩
theorem mv_X12_isName : Mv yX12_isName RX12 cX12_isName 2 (some .boolean) 1 := ⟨wi_yX12_isName, wsel_yX12_isName, wini_RX12, wc_yX12_isName, by decide +kernel⟩
theorem mv_X12_findHere : Mv yX12_findHere RX12 cX12_findHere 4 (some .int) 2 := ⟨wi_yX12_findHere, wsel_yX12_findHere, wini_RX12, wc_yX12_findHere, by decide +kernel⟩
theorem mv_X12_nameHere : Mv yX12_nameHere RX12 cX12_nameHere 4 (some .long) 0 := ⟨wi_yX12_nameHere, wsel_yX12_nameHere, wini_RX12, wc_yX12_nameHere, by decide +kernel⟩
theorem mv_X12_someCells : Mv yX12_someCells RX12 cX12_someCells 6 (some .boolean) 0 := ⟨wi_yX12_someCells, wsel_yX12_someCells, wini_RX12, wc_yX12_someCells, by decide +kernel⟩
theorem mv_X12_someStages : Mv yX12_someStages RX12 cX12_someStages 4 (some .boolean) 0 := ⟨wi_yX12_someStages, wsel_yX12_someStages, wini_RX12, wc_yX12_someStages, by decide +kernel⟩
theorem mv_X12_aBoat : Mv yX12_aBoat RX12 cX12_aBoat 1 (some .boolean) 0 := ⟨wi_yX12_aBoat, wsel_yX12_aBoat, wini_RX12, wc_yX12_aBoat, by decide +kernel⟩
theorem mv_X12_first : Mv yX12_first RX12 cX12_first 3 none 0 := ⟨wi_yX12_first, wsel_yX12_first, wini_RX12, wc_yX12_first, by decide +kernel⟩
theorem mv_X12_sets : Mv yX12_sets RX12 cX12_sets 1 (some .int) 0 := ⟨wi_yX12_sets, wsel_yX12_sets, wini_RX12, wc_yX12_sets, by decide +kernel⟩
theorem mv_X12_ofBar : Mv yX12_ofBar RX12 cX12_ofBar 3 (some .int) 2 := ⟨wi_yX12_ofBar, wsel_yX12_ofBar, wini_RX12, wc_yX12_ofBar, by decide +kernel⟩
theorem mv_X12_sharesOut : Mv yX12_sharesOut RX12 cX12_sharesOut 6 (some .boolean) 0 := ⟨wi_yX12_sharesOut, wsel_yX12_sharesOut, wini_RX12, wc_yX12_sharesOut, by decide +kernel⟩
theorem mv_X12_cells : Mv yX12_cells RX12 cX12_cells 1 (some .int) 0 := ⟨wi_yX12_cells, wsel_yX12_cells, wini_RX12, wc_yX12_cells, by decide +kernel⟩
theorem mv_X12_taken : Mv yX12_taken RX12 cX12_taken 2 (some .int) 1 := ⟨wi_yX12_taken, wsel_yX12_taken, wini_RX12, wc_yX12_taken, by decide +kernel⟩
theorem mv_X12_gives : Mv yX12_gives RX12 cX12_gives 2 (some .int) 1 := ⟨wi_yX12_gives, wsel_yX12_gives, wini_RX12, wc_yX12_gives, by decide +kernel⟩
theorem mv_X11_rule : Mv yX11_rule RX11 cX11_rule 4 (some .int) 1 := ⟨wi_yX11_rule, wsel_yX11_rule, wini_RX11, wc_yX11_rule, by decide +kernel⟩
theorem mv_X5_parse : Mv yX5_parse RX5 cX5_parse 5 (some .boolean) 3 := ⟨wi_yX5_parse, wsel_yX5_parse, wini_RX5, wc_yX5_parse, by decide +kernel⟩
theorem mv_X5_takeEnd : Mv yX5_takeEnd RX5 cX5_takeEnd 3 (some .boolean) 0 := ⟨wi_yX5_takeEnd, wsel_yX5_takeEnd, wini_RX5, wc_yX5_takeEnd, by decide +kernel⟩
theorem mv_X4_add : Mv yX4_add RX4 cX4_add 3 (some .int) 1 := ⟨wi_yX4_add, wsel_yX4_add, wini_RX4, wc_yX4_add, by decide +kernel⟩
theorem mv_X5_takeStep : Mv yX5_takeStep RX5 cX5_takeStep 4 (some .boolean) 0 := ⟨wi_yX5_takeStep, wsel_yX5_takeStep, wini_RX5, wc_yX5_takeStep, by decide +kernel⟩
theorem mv_X5_wordOfStep : Mv yX5_wordOfStep RX5 cX5_wordOfStep 1 (some .int) 0 := ⟨wi_yX5_wordOfStep, wsel_yX5_wordOfStep, wini_RX5, wc_yX5_wordOfStep, by decide +kernel⟩
theorem mv_X5_takeRest : Mv yX5_takeRest RX5 cX5_takeRest 3 (some .boolean) 2 := ⟨wi_yX5_takeRest, wsel_yX5_takeRest, wini_RX5, wc_yX5_takeRest, by decide +kernel⟩
theorem mv_X5_takeBarName : Mv yX5_takeBarName RX5 cX5_takeBarName 3 (some .boolean) 1 := ⟨wi_yX5_takeBarName, wsel_yX5_takeBarName, wini_RX5, wc_yX5_takeBarName, by decide +kernel⟩
theorem mv_X5_takeCount : Mv yX5_takeCount RX5 cX5_takeCount 4 (some .boolean) 3 := ⟨wi_yX5_takeCount, wsel_yX5_takeCount, wini_RX5, wc_yX5_takeCount, by decide +kernel⟩
theorem mv_X5_takeWhat : Mv yX5_takeWhat RX5 cX5_takeWhat 2 (some .boolean) 1 := ⟨wi_yX5_takeWhat, wsel_yX5_takeWhat, wini_RX5, wc_yX5_takeWhat, by decide +kernel⟩
theorem mv_X12_rule : Mv yX12_rule RX12 cX12_rule 4 (some .int) 1 := ⟨wi_yX12_rule, wsel_yX12_rule, wini_RX12, wc_yX12_rule, by decide +kernel⟩
theorem mv_X12_step : Mv yX12_step RX12 cX12_step 7 (some .boolean) 0 := ⟨wi_yX12_step, wsel_yX12_step, wini_RX12, wc_yX12_step, by decide +kernel⟩
theorem mv_X12_ruleName : Mv yX12_ruleName RX12 cX12_ruleName 3 (some .boolean) 1 := ⟨wi_yX12_ruleName, wsel_yX12_ruleName, wini_RX12, wc_yX12_ruleName, by decide +kernel⟩
theorem mv_X11_fault : Mv yX11_fault RX11 cX11_fault 2 (some .int) 1 := ⟨wi_yX11_fault, wsel_yX11_fault, wini_RX11, wc_yX11_fault, by decide +kernel⟩
theorem mv_X12_fault : Mv yX12_fault RX12 cX12_fault 2 (some .int) 1 := ⟨wi_yX12_fault, wsel_yX12_fault, wini_RX12, wc_yX12_fault, by decide +kernel⟩
theorem mv_X11_told : Mv yX11_told RX11 cX11_told 3 (some .int) 1 := ⟨wi_yX11_told, wsel_yX11_told, wini_RX11, wc_yX11_told, by decide +kernel⟩
theorem mv_X12_told : Mv yX12_told RX12 cX12_told 2 (some .int) 1 := ⟨wi_yX12_told, wsel_yX12_told, wini_RX12, wc_yX12_told, by decide +kernel⟩
theorem mv_X11_bar : Mv yX11_bar RX11 cX11_bar 4 (some .int) 2 := ⟨wi_yX11_bar, wsel_yX11_bar, wini_RX11, wc_yX11_bar, by decide +kernel⟩
theorem mv_X11_isBar : Mv yX11_isBar RX11 cX11_isBar 2 (some .boolean) 1 := ⟨wi_yX11_isBar, wsel_yX11_isBar, wini_RX11, wc_yX11_isBar, by decide +kernel⟩
theorem mv_X2_cellsOf : Mv yX2_cellsOf RX2 cX2_cellsOf 4 (some .int) 1 := ⟨wi_yX2_cellsOf, wsel_yX2_cellsOf, wini_RX2, wc_yX2_cellsOf, by decide +kernel⟩
theorem mv_X12_bar : Mv yX12_bar RX12 cX12_bar 5 (some .int) 2 := ⟨wi_yX12_bar, wsel_yX12_bar, wini_RX12, wc_yX12_bar, by decide +kernel⟩
theorem mv_X12_isBar : Mv yX12_isBar RX12 cX12_isBar 2 (some .boolean) 1 := ⟨wi_yX12_isBar, wsel_yX12_isBar, wini_RX12, wc_yX12_isBar, by decide +kernel⟩
theorem mv_X12_cellOf : Mv yX12_cellOf RX12 cX12_cellOf 3 (some .int) 1 := ⟨wi_yX12_cellOf, wsel_yX12_cellOf, wini_RX12, wc_yX12_cellOf, by decide +kernel⟩
theorem mv_X11_barOf : Mv yX11_barOf RX11 cX11_barOf 3 (some .int) 1 := ⟨wi_yX11_barOf, wsel_yX11_barOf, wini_RX11, wc_yX11_barOf, by decide +kernel⟩
theorem mv_X11_isCell : Mv yX11_isCell RX11 cX11_isCell 2 (some .boolean) 1 := ⟨wi_yX11_isCell, wsel_yX11_isCell, wini_RX11, wc_yX11_isCell, by decide +kernel⟩
theorem mv_X12_barOf : Mv yX12_barOf RX12 cX12_barOf 2 (some .int) 1 := ⟨wi_yX12_barOf, wsel_yX12_barOf, wini_RX12, wc_yX12_barOf, by decide +kernel⟩
theorem mv_X12_isCell : Mv yX12_isCell RX12 cX12_isCell 3 (some .boolean) 1 := ⟨wi_yX12_isCell, wsel_yX12_isCell, wini_RX12, wc_yX12_isCell, by decide +kernel⟩
theorem mv_X11_stage : Mv yX11_stage RX11 cX11_stage 2 (some .int) 1 := ⟨wi_yX11_stage, wsel_yX11_stage, wini_RX11, wc_yX11_stage, by decide +kernel⟩
theorem mv_X2_stageOn : Mv yX2_stageOn RX2 cX2_stageOn 2 (some .int) 1 := ⟨wi_yX2_stageOn, wsel_yX2_stageOn, wini_RX2, wc_yX2_stageOn, by decide +kernel⟩
theorem mv_X12_stage : Mv yX12_stage RX12 cX12_stage 2 (some .int) 1 := ⟨wi_yX12_stage, wsel_yX12_stage, wini_RX12, wc_yX12_stage, by decide +kernel⟩
theorem mt_X12_isFrom : Mst yX12_isFrom cX12_isFrom 6 (some .boolean) 3 := ⟨wst_yX12_isFrom, wini_RX12, wc_yX12_isFrom, by decide +kernel⟩
theorem mv_X12_stageOf : Mv yX12_stageOf RX12 cX12_stageOf 2 (some .int) 1 := ⟨wi_yX12_stageOf, wsel_yX12_stageOf, wini_RX12, wc_yX12_stageOf, by decide +kernel⟩
theorem mv_X11_depth : Mv yX11_depth RX11 cX11_depth 3 (some .int) 2 := ⟨wi_yX11_depth, wsel_yX11_depth, wini_RX11, wc_yX11_depth, by decide +kernel⟩
theorem mv_X11_isSet : Mv yX11_isSet RX11 cX11_isSet 2 (some .boolean) 1 := ⟨wi_yX11_isSet, wsel_yX11_isSet, wini_RX11, wc_yX11_isSet, by decide +kernel⟩
theorem mv_X2_depthAt : Mv yX2_depthAt RX2 cX2_depthAt 6 (some .int) 3 := ⟨wi_yX2_depthAt, wsel_yX2_depthAt, wini_RX2, wc_yX2_depthAt, by decide +kernel⟩
theorem mv_X12_depth : Mv yX12_depth RX12 cX12_depth 3 (some .int) 2 := ⟨wi_yX12_depth, wsel_yX12_depth, wini_RX12, wc_yX12_depth, by decide +kernel⟩
theorem mv_X12_isSet : Mv yX12_isSet RX12 cX12_isSet 2 (some .boolean) 1 := ⟨wi_yX12_isSet, wsel_yX12_isSet, wini_RX12, wc_yX12_isSet, by decide +kernel⟩
theorem mv_X12_depthOf : Mv yX12_depthOf RX12 cX12_depthOf 4 (some .int) 2 := ⟨wi_yX12_depthOf, wsel_yX12_depthOf, wini_RX12, wc_yX12_depthOf, by decide +kernel⟩
theorem mv_X11_open : Mv yX11_open RX11 cX11_open 2 (some .int) 1 := ⟨wi_yX11_open, wsel_yX11_open, wini_RX11, wc_yX11_open, by decide +kernel⟩
theorem mv_X1_look : Mv yX1_look RX1 cX1_look 7 none 3 := ⟨wi_yX1_look, wsel_yX1_look, wini_RX1, wc_yX1_look, by decide +kernel⟩
theorem mv_X1_kindOf : Mv yX1_kindOf RX1 cX1_kindOf 2 (some .int) 1 := ⟨wi_yX1_kindOf, wsel_yX1_kindOf, wini_RX1, wc_yX1_kindOf, by decide +kernel⟩
theorem mv_X12_open : Mv yX12_open RX12 cX12_open 2 (some .int) 1 := ⟨wi_yX12_open, wsel_yX12_open, wini_RX12, wc_yX12_open, by decide +kernel⟩
theorem mv_X12_openOf : Mv yX12_openOf RX12 cX12_openOf 2 (some .int) 1 := ⟨wi_yX12_openOf, wsel_yX12_openOf, wini_RX12, wc_yX12_openOf, by decide +kernel⟩
theorem mv_X12_passes : Mv yX12_passes RX12 cX12_passes 3 (some .boolean) 2 := ⟨wi_yX12_passes, wsel_yX12_passes, wini_RX12, wc_yX12_passes, by decide +kernel⟩
theorem mv_X11_part : Mv yX11_part RX11 cX11_part 2 (some .int) 1 := ⟨wi_yX11_part, wsel_yX11_part, wini_RX11, wc_yX11_part, by decide +kernel⟩
theorem mv_X12_part : Mv yX12_part RX12 cX12_part 2 (some .int) 1 := ⟨wi_yX12_part, wsel_yX12_part, wini_RX12, wc_yX12_part, by decide +kernel⟩
theorem mv_X11_there : Mv yX11_there RX11 cX11_there 2 (some .boolean) 1 := ⟨wi_yX11_there, wsel_yX11_there, wini_RX11, wc_yX11_there, by decide +kernel⟩
theorem mv_X9_partsWith : Mv yX9_partsWith RX9 cX9_partsWith 6 (some .long) 2 := ⟨wi_yX9_partsWith, wsel_yX9_partsWith, wini_RX9, wc_yX9_partsWith, by decide +kernel⟩
theorem mv_X11_tellFraction : Mv yX11_tellFraction RX11 cX11_tellFraction 7 (some .boolean) 2 := ⟨wi_yX11_tellFraction, wsel_yX11_tellFraction, wini_RX11, wc_yX11_tellFraction, by decide +kernel⟩
theorem mt_X11_commonDivisor : Mst yX11_commonDivisor cX11_commonDivisor 11 (some .long) 2 := ⟨wst_yX11_commonDivisor, wini_RX11, wc_yX11_commonDivisor, by decide +kernel⟩
theorem mv_X12_there : Mv yX12_there RX12 cX12_there 2 (some .boolean) 1 := ⟨wi_yX12_there, wsel_yX12_there, wini_RX12, wc_yX12_there, by decide +kernel⟩
theorem mv_X12_partsOf : Mv yX12_partsOf RX12 cX12_partsOf 6 (some .long) 2 := ⟨wi_yX12_partsOf, wsel_yX12_partsOf, wini_RX12, wc_yX12_partsOf, by decide +kernel⟩
theorem mv_X12_tellsBy : Mv yX12_tellsBy RX12 cX12_tellsBy 11 (some .boolean) 2 := ⟨wi_yX12_tellsBy, wsel_yX12_tellsBy, wini_RX12, wc_yX12_tellsBy, by decide +kernel⟩
theorem mv_X11_chance : Mv yX11_chance RX11 cX11_chance 2 (some .boolean) 1 := ⟨wi_yX11_chance, wsel_yX11_chance, wini_RX11, wc_yX11_chance, by decide +kernel⟩
theorem mv_X9_partsWithout : Mv yX9_partsWithout RX9 cX9_partsWithout 6 (some .long) 2 := ⟨wi_yX9_partsWithout, wsel_yX9_partsWithout, wini_RX9, wc_yX9_partsWithout, by decide +kernel⟩
theorem mv_X12_chance : Mv yX12_chance RX12 cX12_chance 2 (some .boolean) 1 := ⟨wi_yX12_chance, wsel_yX12_chance, wini_RX12, wc_yX12_chance, by decide +kernel⟩
theorem mv_X11_pass : Mv yX11_pass RX11 cX11_pass 3 (some .int) 1 := ⟨wi_yX11_pass, wsel_yX11_pass, wini_RX11, wc_yX11_pass, by decide +kernel⟩
theorem mv_X9_passDay : Mv yX9_passDay RX9 cX9_passDay 15 none 4 := ⟨wi_yX9_passDay, wsel_yX9_passDay, wini_RX9, wc_yX9_passDay, by decide +kernel⟩
theorem mt_X11_copyParts : Mst yX11_copyParts cX11_copyParts 2 none 2 := ⟨wst_yX11_copyParts, wini_RX11, wc_yX11_copyParts, by decide +kernel⟩
theorem mv_X12_pass : Mv yX12_pass RX12 cX12_pass 3 (some .int) 1 := ⟨wi_yX12_pass, wsel_yX12_pass, wini_RX12, wc_yX12_pass, by decide +kernel⟩
theorem mv_X12_passDay : Mv yX12_passDay RX12 cX12_passDay 9 none 2 := ⟨wi_yX12_passDay, wsel_yX12_passDay, wini_RX12, wc_yX12_passDay, by decide +kernel⟩
theorem mv_X11_sound : Mv yX11_sound RX11 cX11_sound 4 (some .boolean) 2 := ⟨wi_yX11_sound, wsel_yX11_sound, wini_RX11, wc_yX11_sound, by decide +kernel⟩
theorem mv_X9_hearPole : Mv yX9_hearPole RX9 cX9_hearPole 9 (some .boolean) 5 := ⟨wi_yX9_hearPole, wsel_yX9_hearPole, wini_RX9, wc_yX9_hearPole, by decide +kernel⟩
theorem mv_X2_likelyRead : Mv yX2_likelyRead RX2 cX2_likelyRead 3 (some .int) 2 := ⟨wi_yX2_likelyRead, wsel_yX2_likelyRead, wini_RX2, wc_yX2_likelyRead, by decide +kernel⟩
theorem mv_X12_sound : Mv yX12_sound RX12 cX12_sound 3 (some .boolean) 2 := ⟨wi_yX12_sound, wsel_yX12_sound, wini_RX12, wc_yX12_sound, by decide +kernel⟩
theorem mv_X12_sounds : Mv yX12_sounds RX12 cX12_sounds 4 (some .boolean) 2 := ⟨wi_yX12_sounds, wsel_yX12_sounds, wini_RX12, wc_yX12_sounds, by decide +kernel⟩
theorem mv_X12_weighs : Mv yX12_weighs RX12 cX12_weighs 3 (some .int) 2 := ⟨wi_yX12_weighs, wsel_yX12_weighs, wini_RX12, wc_yX12_weighs, by decide +kernel⟩
theorem mv_X11_colour : Mv yX11_colour RX11 cX11_colour 3 (some .boolean) 2 := ⟨wi_yX11_colour, wsel_yX11_colour, wini_RX11, wc_yX11_colour, by decide +kernel⟩
theorem mv_X9_seeWater : Mv yX9_seeWater RX9 cX9_seeWater 8 (some .boolean) 4 := ⟨wi_yX9_seeWater, wsel_yX9_seeWater, wini_RX9, wc_yX9_seeWater, by decide +kernel⟩
theorem mv_X12_colour : Mv yX12_colour RX12 cX12_colour 3 (some .boolean) 2 := ⟨wi_yX12_colour, wsel_yX12_colour, wini_RX12, wc_yX12_colour, by decide +kernel⟩
theorem mv_X12_colours : Mv yX12_colours RX12 cX12_colours 6 (some .boolean) 2 := ⟨wi_yX12_colours, wsel_yX12_colours, wini_RX12, wc_yX12_colours, by decide +kernel⟩
theorem mv_X11_off : Mv yX11_off RX11 cX11_off 2 (some .boolean) 1 := ⟨wi_yX11_off, wsel_yX11_off, wini_RX11, wc_yX11_off, by decide +kernel⟩
theorem mv_X12_off : Mv yX12_off RX12 cX12_off 2 (some .boolean) 1 := ⟨wi_yX12_off, wsel_yX12_off, wini_RX12, wc_yX12_off, by decide +kernel⟩
theorem mv_X11_forget : Mv yX11_forget RX11 cX11_forget 1 (some .boolean) 0 := ⟨wi_yX11_forget, wsel_yX11_forget, wini_RX11, wc_yX11_forget, by decide +kernel⟩
theorem mv_X12_forget : Mv yX12_forget RX12 cX12_forget 1 (some .boolean) 0 := ⟨wi_yX12_forget, wsel_yX12_forget, wini_RX12, wc_yX12_forget, by decide +kernel⟩
theorem mv_X11_minutes : Mv yX11_minutes RX11 cX11_minutes 4 (some .int) 2 := ⟨wi_yX11_minutes, wsel_yX11_minutes, wini_RX11, wc_yX11_minutes, by decide +kernel⟩
theorem mv_X11_wayStatus : Mv yX11_wayStatus RX11 cX11_wayStatus 4 (some .int) 3 := ⟨wi_yX11_wayStatus, wsel_yX11_wayStatus, wini_RX11, wc_yX11_wayStatus, by decide +kernel⟩
theorem mv_X2_isWay : Mv yX2_isWay RX2 cX2_isWay 4 (some .boolean) 2 := ⟨wi_yX2_isWay, wsel_yX2_isWay, wini_RX2, wc_yX2_isWay, by decide +kernel⟩
theorem mv_X2_headingTo : Mv yX2_headingTo RX2 cX2_headingTo 6 (some .int) 2 := ⟨wi_yX2_headingTo, wsel_yX2_headingTo, wini_RX2, wc_yX2_headingTo, by decide +kernel⟩
theorem mv_X2_beside : Mv yX2_beside RX2 cX2_beside 5 (some .int) 2 := ⟨wi_yX2_beside, wsel_yX2_beside, wini_RX2, wc_yX2_beside, by decide +kernel⟩
theorem mv_X2_minutesAlong : Mv yX2_minutesAlong RX2 cX2_minutesAlong 7 (some .int) 2 := ⟨wi_yX2_minutesAlong, wsel_yX2_minutesAlong, wini_RX2, wc_yX2_minutesAlong, by decide +kernel⟩
theorem mv_X2_stepMinutes : Mv yX2_stepMinutes RX2 cX2_stepMinutes 2 (some .int) 1 := ⟨wi_yX2_stepMinutes, wsel_yX2_stepMinutes, wini_RX2, wc_yX2_stepMinutes, by decide +kernel⟩
theorem mv_X2_turnMinutes : Mv yX2_turnMinutes RX2 cX2_turnMinutes 4 (some .int) 2 := ⟨wi_yX2_turnMinutes, wsel_yX2_turnMinutes, wini_RX2, wc_yX2_turnMinutes, by decide +kernel⟩
theorem mv_X12_minutes : Mv yX12_minutes RX12 cX12_minutes 9 (some .int) 2 := ⟨wi_yX12_minutes, wsel_yX12_minutes, wini_RX12, wc_yX12_minutes, by decide +kernel⟩
theorem mv_X12_wrongWay : Mv yX12_wrongWay RX12 cX12_wrongWay 5 (some .int) 2 := ⟨wi_yX12_wrongWay, wsel_yX12_wrongWay, wini_RX12, wc_yX12_wrongWay, by decide +kernel⟩
theorem mv_X12_headingTo : Mv yX12_headingTo RX12 cX12_headingTo 4 (some .int) 2 := ⟨wi_yX12_headingTo, wsel_yX12_headingTo, wini_RX12, wc_yX12_headingTo, by decide +kernel⟩
theorem mv_X12_leads : Mv yX12_leads RX12 cX12_leads 5 (some .int) 2 := ⟨wi_yX12_leads, wsel_yX12_leads, wini_RX12, wc_yX12_leads, by decide +kernel⟩
theorem mv_X12_stepMinutes : Mv yX12_stepMinutes RX12 cX12_stepMinutes 4 (some .int) 2 := ⟨wi_yX12_stepMinutes, wsel_yX12_stepMinutes, wini_RX12, wc_yX12_stepMinutes, by decide +kernel⟩
theorem mv_X11_struck : Mv yX11_struck RX11 cX11_struck 6 (some .int) 3 := ⟨wi_yX11_struck, wsel_yX11_struck, wini_RX11, wc_yX11_struck, by decide +kernel⟩
theorem mv_X1_firstStruck : Mv yX1_firstStruck RX1 cX1_firstStruck 5 (some .int) 3 := ⟨wi_yX1_firstStruck, wsel_yX1_firstStruck, wini_RX1, wc_yX1_firstStruck, by decide +kernel⟩
theorem mv_X12_struck : Mv yX12_struck RX12 cX12_struck 6 (some .int) 3 := ⟨wi_yX12_struck, wsel_yX12_struck, wini_RX12, wc_yX12_struck, by decide +kernel⟩
theorem mv_X12_struckAt : Mv yX12_struckAt RX12 cX12_struckAt 5 (some .int) 3 := ⟨wi_yX12_struckAt, wsel_yX12_struckAt, wini_RX12, wc_yX12_struckAt, by decide +kernel⟩
theorem mv_X11_sure : Mv yX11_sure RX11 cX11_sure 7 (some .boolean) 2 := ⟨wi_yX11_sure, wsel_yX11_sure, wini_RX11, wc_yX11_sure, by decide +kernel⟩
theorem mv_X12_sure : Mv yX12_sure RX12 cX12_sure 7 (some .boolean) 2 := ⟨wi_yX12_sure, wsel_yX12_sure, wini_RX12, wc_yX12_sure, by decide +kernel⟩
theorem mv_X11_soonest : Mv yX11_soonest RX11 cX11_soonest 4 (some .int) 3 := ⟨wi_yX11_soonest, wsel_yX11_soonest, wini_RX11, wc_yX11_soonest, by decide +kernel⟩
theorem mv_X1_search : Mv yX1_search RX1 cX1_search 4 (some .boolean) 2 := ⟨wi_yX1_search, wsel_yX1_search, wini_RX1, wc_yX1_search, by decide +kernel⟩
theorem mv_X1_hasWayByLess : Mv yX1_hasWayByLess RX1 cX1_hasWayByLess 3 (some .boolean) 1 := ⟨wi_yX1_hasWayByLess, wsel_yX1_hasWayByLess, wini_RX1, wc_yX1_hasWayByLess, by decide +kernel⟩
theorem mv_X1_cellsBy : Mv yX1_cellsBy RX1 cX1_cellsBy 5 (some .long) 1 := ⟨wi_yX1_cellsBy, wsel_yX1_cellsBy, wini_RX1, wc_yX1_cellsBy, by decide +kernel⟩
theorem mv_X1_reaches : Mv yX1_reaches RX1 cX1_reaches 10 (some .boolean) 1 := ⟨wi_yX1_reaches, wsel_yX1_reaches, wini_RX1, wc_yX1_reaches, by decide +kernel⟩
theorem mv_X1_spread : Mv yX1_spread RX1 cX1_spread 5 (some .long) 1 := ⟨wi_yX1_spread, wsel_yX1_spread, wini_RX1, wc_yX1_spread, by decide +kernel⟩
theorem mv_X1_keepWay : Mv yX1_keepWay RX1 cX1_keepWay 6 (some .int) 1 := ⟨wi_yX1_keepWay, wsel_yX1_keepWay, wini_RX1, wc_yX1_keepWay, by decide +kernel⟩
theorem mv_X1_soonestBy : Mv yX1_soonestBy RX1 cX1_soonestBy 12 (some .int) 1 := ⟨wi_yX1_soonestBy, wsel_yX1_soonestBy, wini_RX1, wc_yX1_soonestBy, by decide +kernel⟩
theorem mv_X1_settle : Mv yX1_settle RX1 cX1_settle 7 (some .boolean) 1 := ⟨wi_yX1_settle, wsel_yX1_settle, wini_RX1, wc_yX1_settle, by decide +kernel⟩
theorem mv_X1_minutesBy : Mv yX1_minutesBy RX1 cX1_minutesBy 4 (some .int) 2 := ⟨wi_yX1_minutesBy, wsel_yX1_minutesBy, wini_RX1, wc_yX1_minutesBy, by decide +kernel⟩
theorem mv_X1_soonestHeading : Mv yX1_soonestHeading RX1 cX1_soonestHeading 10 (some .int) 2 := ⟨wi_yX1_soonestHeading, wsel_yX1_soonestHeading, wini_RX1, wc_yX1_soonestHeading, by decide +kernel⟩
theorem mv_X12_soonest : Mv yX12_soonest RX12 cX12_soonest 4 (some .int) 3 := ⟨wi_yX12_soonest, wsel_yX12_soonest, wini_RX12, wc_yX12_soonest, by decide +kernel⟩
theorem mv_X12_readies : Mv yX12_readies RX12 cX12_readies 5 none 2 := ⟨wi_yX12_readies, wsel_yX12_readies, wini_RX12, wc_yX12_readies, by decide +kernel⟩
theorem mv_X12_reckons : Mv yX12_reckons RX12 cX12_reckons 6 none 2 := ⟨wi_yX12_reckons, wsel_yX12_reckons, wini_RX12, wc_yX12_reckons, by decide +kernel⟩
theorem mv_X12_betters : Mv yX12_betters RX12 cX12_betters 8 (some .boolean) 2 := ⟨wi_yX12_betters, wsel_yX12_betters, wini_RX12, wc_yX12_betters, by decide +kernel⟩
theorem mv_X12_walks : Mv yX12_walks RX12 cX12_walks 10 none 3 := ⟨wi_yX12_walks, wsel_yX12_walks, wini_RX12, wc_yX12_walks, by decide +kernel⟩
theorem mv_X11_surest : Mv yX11_surest RX11 cX11_surest 4 (some .int) 2 := ⟨wi_yX11_surest, wsel_yX11_surest, wini_RX11, wc_yX11_surest, by decide +kernel⟩
theorem mv_X11_choiceStatus : Mv yX11_choiceStatus RX11 cX11_choiceStatus 3 (some .int) 2 := ⟨wi_yX11_choiceStatus, wsel_yX11_choiceStatus, wini_RX11, wc_yX11_choiceStatus, by decide +kernel⟩
theorem mv_X1_chooseSurest : Mv yX1_chooseSurest RX1 cX1_chooseSurest 4 none 1 := ⟨wi_yX1_chooseSurest, wsel_yX1_chooseSurest, wini_RX1, wc_yX1_chooseSurest, by decide +kernel⟩
theorem mv_X1_bestOf : Mv yX1_bestOf RX1 cX1_bestOf 5 (some .long) 1 := ⟨wi_yX1_bestOf, wsel_yX1_bestOf, wini_RX1, wc_yX1_bestOf, by decide +kernel⟩
theorem mv_X1_sumUp : Mv yX1_sumUp RX1 cX1_sumUp 5 none 1 := ⟨wi_yX1_sumUp, wsel_yX1_sumUp, wini_RX1, wc_yX1_sumUp, by decide +kernel⟩
theorem mv_X1_sumWithout : Mv yX1_sumWithout RX1 cX1_sumWithout 2 (some .long) 1 := ⟨wi_yX1_sumWithout, wsel_yX1_sumWithout, wini_RX1, wc_yX1_sumWithout, by decide +kernel⟩
theorem mv_X12_surest : Mv yX12_surest RX12 cX12_surest 4 (some .int) 2 := ⟨wi_yX12_surest, wsel_yX12_surest, wini_RX12, wc_yX12_surest, by decide +kernel⟩
theorem mv_X12_areCells : Mv yX12_areCells RX12 cX12_areCells 3 (some .boolean) 2 := ⟨wi_yX12_areCells, wsel_yX12_areCells, wini_RX12, wc_yX12_areCells, by decide +kernel⟩
theorem mv_X12_surestOf : Mv yX12_surestOf RX12 cX12_surestOf 7 (some .int) 2 := ⟨wi_yX12_surestOf, wsel_yX12_surestOf, wini_RX12, wc_yX12_surestOf, by decide +kernel⟩
theorem mv_X11_mean : Mv yX11_mean RX11 cX11_mean 6 (some .int) 2 := ⟨wi_yX11_mean, wsel_yX11_mean, wini_RX11, wc_yX11_mean, by decide +kernel⟩
theorem mv_X1_chooseMean : Mv yX1_chooseMean RX1 cX1_chooseMean 7 (some .long) 1 := ⟨wi_yX1_chooseMean, wsel_yX1_chooseMean, wini_RX1, wc_yX1_chooseMean, by decide +kernel⟩
theorem mv_X1_likelyThere : Mv yX1_likelyThere RX1 cX1_likelyThere 5 (some .long) 1 := ⟨wi_yX1_likelyThere, wsel_yX1_likelyThere, wini_RX1, wc_yX1_likelyThere, by decide +kernel⟩
theorem mv_X12_mean : Mv yX12_mean RX12 cX12_mean 5 (some .int) 2 := ⟨wi_yX12_mean, wsel_yX12_mean, wini_RX12, wc_yX12_mean, by decide +kernel⟩
theorem mv_X12_meanOf : Mv yX12_meanOf RX12 cX12_meanOf 5 (some .long) 1 := ⟨wi_yX12_meanOf, wsel_yX12_meanOf, wini_RX12, wc_yX12_meanOf, by decide +kernel⟩
theorem mv_X11_length : Mv yX11_length RX11 cX11_length 1 (some .int) 0 := ⟨wi_yX11_length, wsel_yX11_length, wini_RX11, wc_yX11_length, by decide +kernel⟩
theorem mv_X12_length : Mv yX12_length RX12 cX12_length 1 (some .int) 0 := ⟨wi_yX12_length, wsel_yX12_length, wini_RX12, wc_yX12_length, by decide +kernel⟩
theorem mv_X11_way : Mv yX11_way RX11 cX11_way 2 (some .int) 1 := ⟨wi_yX11_way, wsel_yX11_way, wini_RX11, wc_yX11_way, by decide +kernel⟩
theorem mv_X12_way : Mv yX12_way RX12 cX12_way 2 (some .int) 1 := ⟨wi_yX12_way, wsel_yX12_way, wini_RX12, wc_yX12_way, by decide +kernel⟩
theorem mv_X11_worth : Mv yX11_worth RX11 cX11_worth 4 (some .boolean) 3 := ⟨wi_yX11_worth, wsel_yX11_worth, wini_RX11, wc_yX11_worth, by decide +kernel⟩
theorem mv_X6_begin : Mv yX6_begin RX6 cX6_begin 4 none 2 := ⟨wi_yX6_begin, wsel_yX6_begin, wini_RX6, wc_yX6_begin, by decide +kernel⟩
theorem mv_X6_worthOf : Mv yX6_worthOf RX6 cX6_worthOf 5 (some .long) 1 := ⟨wi_yX6_worthOf, wsel_yX6_worthOf, wini_RX6, wc_yX6_worthOf, by decide +kernel⟩
theorem mv_X6_worthAt : Mv yX6_worthAt RX6 cX6_worthAt 12 (some .long) 2 := ⟨wi_yX6_worthAt, wsel_yX6_worthAt, wini_RX6, wc_yX6_worthAt, by decide +kernel⟩
theorem mv_X6_worthBehind : Mv yX6_worthBehind RX6 cX6_worthBehind 7 (some .long) 4 := ⟨wi_yX6_worthBehind, wsel_yX6_worthBehind, wini_RX6, wc_yX6_worthBehind, by decide +kernel⟩
theorem mv_X6_wholeOf : Mv yX6_wholeOf RX6 cX6_wholeOf 2 (some .long) 1 := ⟨wi_yX6_wholeOf, wsel_yX6_wholeOf, wini_RX6, wc_yX6_wholeOf, by decide +kernel⟩
theorem mv_X12_worth : Mv yX12_worth RX12 cX12_worth 8 (some .boolean) 3 := ⟨wi_yX12_worth, wsel_yX12_worth, wini_RX12, wc_yX12_worth, by decide +kernel⟩
theorem mv_X12_thinks : Mv yX12_thinks RX12 cX12_thinks 2 none 0 := ⟨wi_yX12_thinks, wsel_yX12_thinks, wini_RX12, wc_yX12_thinks, by decide +kernel⟩
theorem mv_X12_bestBar : Mv yX12_bestBar RX12 cX12_bestBar 8 (some .int) 1 := ⟨wi_yX12_bestBar, wsel_yX12_bestBar, wini_RX12, wc_yX12_bestBar, by decide +kernel⟩
theorem mv_X12_hasCell : Mv yX12_hasCell RX12 cX12_hasCell 2 (some .boolean) 1 := ⟨wi_yX12_hasCell, wsel_yX12_hasCell, wini_RX12, wc_yX12_hasCell, by decide +kernel⟩
theorem mv_X12_worthOf : Mv yX12_worthOf RX12 cX12_worthOf 3 (some .long) 2 := ⟨wi_yX12_worthOf, wsel_yX12_worthOf, wini_RX12, wc_yX12_worthOf, by decide +kernel⟩
theorem mv_X12_worthOf1 : Mv yX12_worthOf1 RX12 cX12_worthOf1 6 (some .long) 2 := ⟨wi_yX12_worthOf1, wsel_yX12_worthOf1, wini_RX12, wc_yX12_worthOf1, by decide +kernel⟩
theorem mv_X12_readFrom : Mv yX12_readFrom RX12 cX12_readFrom 2 (some .int) 1 := ⟨wi_yX12_readFrom, wsel_yX12_readFrom, wini_RX12, wc_yX12_readFrom, by decide +kernel⟩
theorem mv_X12_readTo : Mv yX12_readTo RX12 cX12_readTo 2 (some .int) 1 := ⟨wi_yX12_readTo, wsel_yX12_readTo, wini_RX12, wc_yX12_readTo, by decide +kernel⟩
theorem mv_X12_reads : Mv yX12_reads RX12 cX12_reads 8 (some .boolean) 3 := ⟨wi_yX12_reads, wsel_yX12_reads, wini_RX12, wc_yX12_reads, by decide +kernel⟩
theorem mv_X12_worth0 : Mv yX12_worth0 RX12 cX12_worth0 8 (some .long) 1 := ⟨wi_yX12_worth0, wsel_yX12_worth0, wini_RX12, wc_yX12_worth0, by decide +kernel⟩
theorem mv_X12_worthOf2 : Mv yX12_worthOf2 RX12 cX12_worthOf2 6 (some .long) 2 := ⟨wi_yX12_worthOf2, wsel_yX12_worthOf2, wini_RX12, wc_yX12_worthOf2, by decide +kernel⟩
theorem mv_X12_worth1 : Mv yX12_worth1 RX12 cX12_worth1 5 (some .long) 1 := ⟨wi_yX12_worth1, wsel_yX12_worth1, wini_RX12, wc_yX12_worth1, by decide +kernel⟩
theorem mv_X12_worthOf3 : Mv yX12_worthOf3 RX12 cX12_worthOf3 5 (some .long) 1 := ⟨wi_yX12_worthOf3, wsel_yX12_worthOf3, wini_RX12, wc_yX12_worthOf3, by decide +kernel⟩
theorem mv_X12_worth2 : Mv yX12_worth2 RX12 cX12_worth2 5 (some .long) 1 := ⟨wi_yX12_worth2, wsel_yX12_worth2, wini_RX12, wc_yX12_worth2, by decide +kernel⟩
theorem mv_X11_next : Mv yX11_next RX11 cX11_next 5 (some .int) 3 := ⟨wi_yX11_next, wsel_yX11_next, wini_RX11, wc_yX11_next, by decide +kernel⟩
theorem mv_X6_firstBest : Mv yX6_firstBest RX6 cX6_firstBest 8 (some .int) 1 := ⟨wi_yX6_firstBest, wsel_yX6_firstBest, wini_RX6, wc_yX6_firstBest, by decide +kernel⟩
theorem mv_X12_next : Mv yX12_next RX12 cX12_next 5 (some .int) 3 := ⟨wi_yX12_next, wsel_yX12_next, wini_RX12, wc_yX12_next, by decide +kernel⟩
theorem mv_X11_lieTo : Mv yX11_lieTo RX11 cX11_lieTo 15 (some .int) 4 := ⟨wi_yX11_lieTo, wsel_yX11_lieTo, wini_RX11, wc_yX11_lieTo, by decide +kernel⟩
theorem mv_X12_lieTo : Mv yX12_lieTo RX12 cX12_lieTo 14 (some .int) 4 := ⟨wi_yX12_lieTo, wsel_yX12_lieTo, wini_RX12, wc_yX12_lieTo, by decide +kernel⟩
theorem mv_X12_keeps : Mv yX12_keeps RX12 cX12_keeps 2 none 0 := ⟨wi_yX12_keeps, wsel_yX12_keeps, wini_RX12, wc_yX12_keeps, by decide +kernel⟩
theorem mv_X12_brings : Mv yX12_brings RX12 cX12_brings 2 none 0 := ⟨wi_yX12_brings, wsel_yX12_brings, wini_RX12, wc_yX12_brings, by decide +kernel⟩
theorem mv_X11_marked : Mv yX11_marked RX11 cX11_marked 11 (some .int) 3 := ⟨wi_yX11_marked, wsel_yX11_marked, wini_RX11, wc_yX11_marked, by decide +kernel⟩
theorem mt_J6_bitCount_0f7a4 : Mst yJ6_bitCount_0f7a4 cJ6_bitCount_0f7a4 1 (some .int) 1 := ⟨wst_yJ6_bitCount_0f7a4, wini_RJ6, wc_yJ6_bitCount_0f7a4, by decide +kernel⟩
theorem mv_X11_partsMarked : Mv yX11_partsMarked RX11 cX11_partsMarked 6 (some .long) 1 := ⟨wi_yX11_partsMarked, wsel_yX11_partsMarked, wini_RX11, wc_yX11_partsMarked, by decide +kernel⟩
theorem mv_X12_marked : Mv yX12_marked RX12 cX12_marked 10 (some .int) 3 := ⟨wi_yX12_marked, wsel_yX12_marked, wini_RX12, wc_yX12_marked, by decide +kernel⟩
theorem mt_X12_bits : Mst yX12_bits cX12_bits 3 (some .int) 1 := ⟨wst_yX12_bits, wini_RX12, wc_yX12_bits, by decide +kernel⟩
theorem mv_X12_markedBy : Mv yX12_markedBy RX12 cX12_markedBy 8 (some .long) 1 := ⟨wi_yX12_markedBy, wsel_yX12_markedBy, wini_RX12, wc_yX12_markedBy, by decide +kernel⟩
theorem mv_X11_tells : Mv yX11_tells RX11 cX11_tells 5 (some .boolean) 2 := ⟨wi_yX11_tells, wsel_yX11_tells, wini_RX11, wc_yX11_tells, by decide +kernel⟩
theorem mv_X12_tells : Mv yX12_tells RX12 cX12_tells 7 (some .boolean) 2 := ⟨wi_yX12_tells, wsel_yX12_tells, wini_RX12, wc_yX12_tells, by decide +kernel⟩
theorem mv_X11_dredged : Mv yX11_dredged RX11 cX11_dredged 10 (some .int) 2 := ⟨wi_yX11_dredged, wsel_yX11_dredged, wini_RX11, wc_yX11_dredged, by decide +kernel⟩
theorem mv_X11_partsDredged : Mv yX11_partsDredged RX11 cX11_partsDredged 4 (some .long) 1 := ⟨wi_yX11_partsDredged, wsel_yX11_partsDredged, wini_RX11, wc_yX11_partsDredged, by decide +kernel⟩
theorem mv_X12_dredged : Mv yX12_dredged RX12 cX12_dredged 10 (some .int) 2 := ⟨wi_yX12_dredged, wsel_yX12_dredged, wini_RX12, wc_yX12_dredged, by decide +kernel⟩
theorem mv_X11_brush : Mv yX11_brush RX11 cX11_brush 7 (some .boolean) 5 := ⟨wi_yX11_brush, wsel_yX11_brush, wini_RX11, wc_yX11_brush, by decide +kernel⟩
theorem mv_X12_brush : Mv yX12_brush RX12 cX12_brush 9 (some .boolean) 5 := ⟨wi_yX12_brush, wsel_yX12_brush, wini_RX12, wc_yX12_brush, by decide +kernel⟩
theorem mv_X11_lighten : Mv yX11_lighten RX11 cX11_lighten 5 (some .int) 3 := ⟨wi_yX11_lighten, wsel_yX11_lighten, wini_RX11, wc_yX11_lighten, by decide +kernel⟩
theorem mv_X12_lighten : Mv yX12_lighten RX12 cX12_lighten 8 (some .int) 3 := ⟨wi_yX12_lighten, wsel_yX12_lighten, wini_RX12, wc_yX12_lighten, by decide +kernel⟩
theorem mv_X11_play : Mv yX11_play RX11 cX11_play 5 (some .int) 3 := ⟨wi_yX11_play, wsel_yX11_play, wini_RX11, wc_yX11_play, by decide +kernel⟩
theorem mv_X0_begin : Mv yX0_begin RX0 cX0_begin 5 none 4 := ⟨wi_yX0_begin, wsel_yX0_begin, wini_RX0, wc_yX0_begin, by decide +kernel⟩
theorem mv_X0_drawTruth : Mv yX0_drawTruth RX0 cX0_drawTruth 6 (some .int) 0 := ⟨wi_yX0_drawTruth, wsel_yX0_drawTruth, wini_RX0, wc_yX0_drawTruth, by decide +kernel⟩
theorem mv_X0_draw : Mv yX0_draw RX0 cX0_draw 2 (some .int) 1 := ⟨wi_yX0_draw, wsel_yX0_draw, wini_RX0, wc_yX0_draw, by decide +kernel⟩
theorem mv_X0_follow : Mv yX0_follow RX0 cX0_follow 4 (some .int) 0 := ⟨wi_yX0_follow, wsel_yX0_follow, wini_RX0, wc_yX0_follow, by decide +kernel⟩
theorem mv_X0_lineBehindEnd : Mv yX0_lineBehindEnd RX0 cX0_lineBehindEnd 3 (some .int) 1 := ⟨wi_yX0_lineBehindEnd, wsel_yX0_lineBehindEnd, wini_RX0, wc_yX0_lineBehindEnd, by decide +kernel⟩
theorem mv_X0_goThrough : Mv yX0_goThrough RX0 cX0_goThrough 2 (some .int) 0 := ⟨wi_yX0_goThrough, wsel_yX0_goThrough, wini_RX0, wc_yX0_goThrough, by decide +kernel⟩
theorem mv_X0_doStep : Mv yX0_doStep RX0 cX0_doStep 5 (some .int) 1 := ⟨wi_yX0_doStep, wsel_yX0_doStep, wini_RX0, wc_yX0_doStep, by decide +kernel⟩
theorem mv_X0_takeSounding : Mv yX0_takeSounding RX0 cX0_takeSounding 5 none 1 := ⟨wi_yX0_takeSounding, wsel_yX0_takeSounding, wini_RX0, wc_yX0_takeSounding, by decide +kernel⟩
theorem mv_X0_cellOf : Mv yX0_cellOf RX0 cX0_cellOf 2 (some .int) 1 := ⟨wi_yX0_cellOf, wsel_yX0_cellOf, wini_RX0, wc_yX0_cellOf, by decide +kernel⟩
theorem mv_X0_takeColour : Mv yX0_takeColour RX0 cX0_takeColour 5 none 1 := ⟨wi_yX0_takeColour, wsel_yX0_takeColour, wini_RX0, wc_yX0_takeColour, by decide +kernel⟩
theorem mv_X0_waitDay : Mv yX0_waitDay RX0 cX0_waitDay 3 none 0 := ⟨wi_yX0_waitDay, wsel_yX0_waitDay, wini_RX0, wc_yX0_waitDay, by decide +kernel⟩
theorem mv_X0_putOff : Mv yX0_putOff RX0 cX0_putOff 2 none 1 := ⟨wi_yX0_putOff, wsel_yX0_putOff, wini_RX0, wc_yX0_putOff, by decide +kernel⟩
theorem mv_X0_isSo : Mv yX0_isSo RX0 cX0_isSo 6 (some .boolean) 3 := ⟨wi_yX0_isSo, wsel_yX0_isSo, wini_RX0, wc_yX0_isSo, by decide +kernel⟩
theorem mv_X12_play : Mv yX12_play RX12 cX12_play 4 (some .int) 3 := ⟨wi_yX12_play, wsel_yX12_play, wini_RX12, wc_yX12_play, by decide +kernel⟩
theorem mv_X12_plays : Mv yX12_plays RX12 cX12_plays 5 none 3 := ⟨wi_yX12_plays, wsel_yX12_plays, wini_RX12, wc_yX12_plays, by decide +kernel⟩
theorem mv_X12_drawTruth : Mv yX12_drawTruth RX12 cX12_drawTruth 5 none 0 := ⟨wi_yX12_drawTruth, wsel_yX12_drawTruth, wini_RX12, wc_yX12_drawTruth, by decide +kernel⟩
theorem mv_X12_draw : Mv yX12_draw RX12 cX12_draw 2 (some .int) 1 := ⟨wi_yX12_draw, wsel_yX12_draw, wini_RX12, wc_yX12_draw, by decide +kernel⟩
theorem mv_X12_does : Mv yX12_does RX12 cX12_does 10 (some .int) 3 := ⟨wi_yX12_does, wsel_yX12_does, wini_RX12, wc_yX12_does, by decide +kernel⟩
theorem mv_X12_soundsAt : Mv yX12_soundsAt RX12 cX12_soundsAt 4 none 1 := ⟨wi_yX12_soundsAt, wsel_yX12_soundsAt, wini_RX12, wc_yX12_soundsAt, by decide +kernel⟩
theorem mv_X12_coloursAt : Mv yX12_coloursAt RX12 cX12_coloursAt 4 none 2 := ⟨wi_yX12_coloursAt, wsel_yX12_coloursAt, wini_RX12, wc_yX12_coloursAt, by decide +kernel⟩
theorem mv_X12_waits : Mv yX12_waits RX12 cX12_waits 3 none 0 := ⟨wi_yX12_waits, wsel_yX12_waits, wini_RX12, wc_yX12_waits, by decide +kernel⟩
theorem mv_X12_holds : Mv yX12_holds RX12 cX12_holds 8 (some .boolean) 5 := ⟨wi_yX12_holds, wsel_yX12_holds, wini_RX12, wc_yX12_holds, by decide +kernel⟩
theorem mv_X12_goes : Mv yX12_goes RX12 cX12_goes 3 none 2 := ⟨wi_yX12_goes, wsel_yX12_goes, wini_RX12, wc_yX12_goes, by decide +kernel⟩
theorem mv_X12_behindEnds : Mv yX12_behindEnds RX12 cX12_behindEnds 5 (some .int) 1 := ⟨wi_yX12_behindEnds, wsel_yX12_behindEnds, wini_RX12, wc_yX12_behindEnds, by decide +kernel⟩
theorem mv_X12_tellsPlayed : Mv yX12_tellsPlayed RX12 cX12_tellsPlayed 1 none 0 := ⟨wi_yX12_tellsPlayed, wsel_yX12_tellsPlayed, wini_RX12, wc_yX12_tellsPlayed, by decide +kernel⟩
theorem mv_X11_played : Mv yX11_played RX11 cX11_played 2 (some .int) 1 := ⟨wi_yX11_played, wsel_yX11_played, wini_RX11, wc_yX11_played, by decide +kernel⟩
theorem mv_X12_played : Mv yX12_played RX12 cX12_played 2 (some .int) 1 := ⟨wi_yX12_played, wsel_yX12_played, wini_RX12, wc_yX12_played, by decide +kernel⟩
theorem mv_X11_tally : Mv yX11_tally RX11 cX11_tally 8 (some .int) 5 := ⟨wi_yX11_tally, wsel_yX11_tally, wini_RX11, wc_yX11_tally, by decide +kernel⟩
theorem mv_X12_tally : Mv yX12_tally RX12 cX12_tally 8 (some .int) 5 := ⟨wi_yX12_tally, wsel_yX12_tally, wini_RX12, wc_yX12_tally, by decide +kernel⟩
theorem mv_X11_mark : Mv yX11_mark RX11 cX11_mark 1 (some .int) 0 := ⟨wi_yX11_mark, wsel_yX11_mark, wini_RX11, wc_yX11_mark, by decide +kernel⟩
theorem mv_X7_copyFrom : Mv yX7_copyFrom RX7 cX7_copyFrom 2 none 1 := ⟨wi_yX7_copyFrom, wsel_yX7_copyFrom, wini_RX7, wc_yX7_copyFrom, by decide +kernel⟩
theorem mv_X2_copyFrom : Mv yX2_copyFrom RX2 cX2_copyFrom 2 none 1 := ⟨wi_yX2_copyFrom, wsel_yX2_copyFrom, wini_RX2, wc_yX2_copyFrom, by decide +kernel⟩
theorem mv_X4_copyFrom : Mv yX4_copyFrom RX4 cX4_copyFrom 2 none 1 := ⟨wi_yX4_copyFrom, wsel_yX4_copyFrom, wini_RX4, wc_yX4_copyFrom, by decide +kernel⟩
theorem mv_X12_mark : Mv yX12_mark RX12 cX12_mark 1 (some .int) 0 := ⟨wi_yX12_mark, wsel_yX12_mark, wini_RX12, wc_yX12_mark, by decide +kernel⟩
theorem mv_X12_copies : Mv yX12_copies RX12 cX12_copies 4 none 2 := ⟨wi_yX12_copies, wsel_yX12_copies, wini_RX12, wc_yX12_copies, by decide +kernel⟩
theorem mv_X11_back : Mv yX11_back RX11 cX11_back 1 (some .int) 0 := ⟨wi_yX11_back, wsel_yX11_back, wini_RX11, wc_yX11_back, by decide +kernel⟩
theorem mv_X12_back : Mv yX12_back RX12 cX12_back 1 (some .int) 0 := ⟨wi_yX12_back, wsel_yX12_back, wini_RX12, wc_yX12_back, by decide +kernel⟩
theorem nl_0 : (RX11, 17, yX7_init, "PoleRiver") ∈ NST := List.mem_of_getElem? (i := 0) rfl
theorem nl_1 : (RX7, 20, yX4_init, "PoleRiver") ∈ NST := List.mem_of_getElem? (i := 1) rfl
theorem nl_2 : (RX11, 35, yX4_init, "PoleRiver") ∈ NST := List.mem_of_getElem? (i := 2) rfl
theorem nl_3 : (RX11, 42, yX8_init, "PoleRiver") ∈ NST := List.mem_of_getElem? (i := 3) rfl
theorem nl_4 : (RX11, 70, yX9_init, "PoleRiver") ∈ NST := List.mem_of_getElem? (i := 4) rfl
theorem nl_5 : (RX11, 128, yX10_init, "PoleRiver") ∈ NST := List.mem_of_getElem? (i := 5) rfl
theorem nl_6 : (RX9, 39, yX11_copyParts, "PoleRiver") ∈ NST := List.mem_of_getElem? (i := 6) rfl
theorem nl_7 : (RX1, 146, yX11_copyParts, "PoleRiver") ∈ NST := List.mem_of_getElem? (i := 7) rfl
theorem nl_8 : (RX6, 48, yX11_copyParts, "PoleRiver") ∈ NST := List.mem_of_getElem? (i := 8) rfl
theorem nl_9 : (RX11, 377, yX6_worthOf, "PoleRiver") ∈ NST := List.mem_of_getElem? (i := 9) rfl
theorem nl_10 : (RX0, 61, yX11_copyParts, "PoleRiver") ∈ NST := List.mem_of_getElem? (i := 10) rfl
theorem nl_11 : (RX7, 43, yX11_copyParts, "PoleRiver") ∈ NST := List.mem_of_getElem? (i := 11) rfl
section GL
variable {C : Cx} {V : Ev} {L : List Kd} {ca sl nL pc fr lc : Nat} {cc : ByteArray} {own : String} {lv : List (Nat × Value)} {st : List Value} {X : Mem} {f f1 f2 : Option (Int × Mem)}
theorem g_zret1 {a : Int} (hC : Ok C V cc own nL fr lc) (hR : Rt C V L (some .boolean) rI) (ha : a = 0 ∨ a = 1) (hdg : decode cc pc = .ok (.ireturn, 1)) : G C V L 0 0 nL pc lv [vI a] X (some (a, X)) := by
  have h := g_zret (lv := lv) (X := X) hC hR (a := a) hdg
  unfold cz at h
  rwa [if_pos ha] at h
theorem g_ald2 {i j : Int} {ts : List Int} (hC : Ok C V cc own nL fr lc) (hA : At L i (106, ts)) (hn : (ts.length : Int) ≤ 2147483647) (hts : ∀ t ∈ ts, 0 ≤ t) (hdg : decode cc pc = .ok (.aaload, 1)) (h : G C V L ca sl nL (pc + 1) lv (vR V.1 (tl ts j) :: st) X f) : G C V L ca sl nL pc lv (vI j :: vR V.1 i :: st) X (ax ts.length j f) := by
  refine g_ax fun hj hk H locs ls hP hS hl => ?_
  have hcl := i32_clamp (a := j) ⟨hj.1, by omega⟩
  have he := WL_at (b := V.1) (cs := V.2.2.1) (X := X) hA
  rw [kdE, if_neg (by show ¬ (106 : Nat) < 100; decide), if_neg (by show ¬ (106 : Nat) = 101; decide), if_neg (by show ¬ (106 : Nat) < 104; decide)] at he
  have hlt : j.toNat < ts.length := by omega
  have e1 : kdR V.1 ts j.toNat = some (V.1 + (tl ts j).toNat) := by
    unfold kdR tl
    rw [List.getD_eq_getElem?_getD, List.getElem?_eq_getElem hlt, Option.bind_some, Option.getD_some, if_pos (hts _ (List.getElem_mem hlt))]
  have hc : H[V.1 + i.toNat]? = some (vp_cell (V.2.2.1 6) (ts.length, .inr (.inr (.inr (.inr (kdR V.1 ts)))))) := hP i.toNat _ he
  have hty := (hC.2.2.2.2.2.1.1.2 6 (V.2.2.1 6, .array .long) rfl).1
  refine W.aald (v := vR V.1 (tl ts j)) (ty := .array .long) hC.1 hC.2.1 hc (hty ts.length (fun j => va_rf (kdR V.1 ts j))) rfl (fun q => by cases q) (j := Int32.ofInt j) ?_ ?_ rfl rfl hdg (h hk H locs ls hP hS hl)
  · show ¬ (_ ∨ (arrV _ _ _).slots.size ≤ _)
    rw [arrV_size, hcl]
    rintro (q | q)
    · exact absurd ((i32_lt (b := 0) ⟨by omega, by omega⟩ (by decide)).mp q) (by omega)
    · omega
  · show (arrV _ _ _).slots[_]? = _
    rw [arrV_read _ _ (by rw [hcl]; exact hlt), hcl]
    show some (va_rf (kdR V.1 ts j.toNat)) = _
    rw [e1]
    rfl
theorem g_callVI {y : MethodName} {K : String} {bytes : ByteArray} {mL n ix fr1 lo1 ci : Nat} {rt : Option FieldType} {i : Int} {shs : List Int} {T : u_T} {N : Nat} {ty : Nat → FieldType} {As rest st' : List Value} {fo : Option (Int × Mem)} {k : Int → Mem → Option (Int × Mem)} (hC : Ok C V cc own nL fr lc) (hM : Mv y K bytes mL rt n) (hlink : Cond.methodLink own ix y ∈ WS) (hK : Kt C.2.1 V L y (.code y bytes mL rt) fr1 lo1 (vR V.1 i :: As) rI X fo) (hf : Cf ci K T N ty) (hA : At L i (ci, shs)) (hci : ci < 100) (hca : ca ≤ C.2.2.2.1.cells ∧ sl ≤ C.2.2.2.1.slots) (hn : As.length = n) (hst : st' = As.reverse ++ vR V.1 i :: rest) (hrm : fr1 + 1 ≤ fr ∧ 8 + (mL + 11) + lo1 ≤ lc) (hcat : (rest.map fun v => v.category).sum ≤ 8) (hdg : decode cc pc = .ok (.invokevirtual ix, 3)) (h : ∀ (r : Int) (X1 : Mem), G C V L ca sl nL (pc + 3) lv (vI r :: rest) X1 (k r X1)) : G C V L ca sl nL pc lv st' X (cl fo k) := g_callV (rv := rI) hC hM hlink hK hf hA hci hca hn hst hrm hcat hdg h
theorem g_callVJ {y : MethodName} {K : String} {bytes : ByteArray} {mL n ix fr1 lo1 ci : Nat} {rt : Option FieldType} {i : Int} {shs : List Int} {T : u_T} {N : Nat} {ty : Nat → FieldType} {As rest st' : List Value} {fo : Option (Int × Mem)} {k : Int → Mem → Option (Int × Mem)} (hC : Ok C V cc own nL fr lc) (hM : Mv y K bytes mL rt n) (hlink : Cond.methodLink own ix y ∈ WS) (hK : Kt C.2.1 V L y (.code y bytes mL rt) fr1 lo1 (vR V.1 i :: As) rJ X fo) (hf : Cf ci K T N ty) (hA : At L i (ci, shs)) (hci : ci < 100) (hca : ca ≤ C.2.2.2.1.cells ∧ sl ≤ C.2.2.2.1.slots) (hn : As.length = n) (hst : st' = As.reverse ++ vR V.1 i :: rest) (hrm : fr1 + 1 ≤ fr ∧ 8 + (mL + 11) + lo1 ≤ lc) (hcat : (rest.map fun v => v.category).sum ≤ 8) (hdg : decode cc pc = .ok (.invokevirtual ix, 3)) (h : ∀ (r : Int) (X1 : Mem), G C V L ca sl nL (pc + 3) lv (vJ r :: rest) X1 (k r X1)) : G C V L ca sl nL pc lv st' X (cl fo k) := g_callV (rv := rJ) hC hM hlink hK hf hA hci hca hn hst hrm hcat hdg h
theorem g_callVV {y : MethodName} {K : String} {bytes : ByteArray} {mL n ix fr1 lo1 ci : Nat} {rt : Option FieldType} {i : Int} {shs : List Int} {T : u_T} {N : Nat} {ty : Nat → FieldType} {As rest st' : List Value} {fo : Option (Int × Mem)} {k : Int → Mem → Option (Int × Mem)} (hC : Ok C V cc own nL fr lc) (hM : Mv y K bytes mL rt n) (hlink : Cond.methodLink own ix y ∈ WS) (hK : Kt C.2.1 V L y (.code y bytes mL rt) fr1 lo1 (vR V.1 i :: As) rV X fo) (hf : Cf ci K T N ty) (hA : At L i (ci, shs)) (hci : ci < 100) (hca : ca ≤ C.2.2.2.1.cells ∧ sl ≤ C.2.2.2.1.slots) (hn : As.length = n) (hst : st' = As.reverse ++ vR V.1 i :: rest) (hrm : fr1 + 1 ≤ fr ∧ 8 + (mL + 11) + lo1 ≤ lc) (hcat : (rest.map fun v => v.category).sum ≤ 8) (hdg : decode cc pc = .ok (.invokevirtual ix, 3)) (h : ∀ (r : Int) (X1 : Mem), G C V L ca sl nL (pc + 3) lv rest X1 (k r X1)) : G C V L ca sl nL pc lv st' X (cl fo k) := g_callV (rv := rV) hC hM hlink hK hf hA hci hca hn hst hrm hcat hdg h
theorem g_callNI {y : MethodName} {K host : String} {bytes : ByteArray} {mL n ix fr1 lo1 ci : Nat} {rt : Option FieldType} {i : Int} {shs : List Int} {T : u_T} {N : Nat} {ty : Nat → FieldType} {As rest st' : List Value} {fo : Option (Int × Mem)} {k : Int → Mem → Option (Int × Mem)} (hC : Ok C V cc own nL fr lc) (hM : Mv y K bytes mL rt n) (hlink : (own, ix, y, host) ∈ NST) (hK : Kt C.2.1 V L y (.code y bytes mL rt) fr1 lo1 (vR V.1 i :: As) rI X fo) (hf : Cf ci K T N ty) (hA : At L i (ci, shs)) (hci : ci < 100) (hca : ca ≤ C.2.2.2.1.cells ∧ sl ≤ C.2.2.2.1.slots) (hn : As.length = n) (hst : st' = As.reverse ++ vR V.1 i :: rest) (hrm : fr1 + 1 ≤ fr ∧ 8 + (mL + 11) + lo1 ≤ lc) (hcat : (rest.map fun v => v.category).sum ≤ 8) (hdg : decode cc pc = .ok (.invokevirtual ix, 3)) (h : ∀ (r : Int) (X1 : Mem), G C V L ca sl nL (pc + 3) lv (vI r :: rest) X1 (k r X1)) : G C V L ca sl nL pc lv st' X (cl fo k) := g_callN (rv := rI) hC hM hlink hK hf hA hci hca hn hst hrm hcat hdg h
theorem g_callNJ {y : MethodName} {K host : String} {bytes : ByteArray} {mL n ix fr1 lo1 ci : Nat} {rt : Option FieldType} {i : Int} {shs : List Int} {T : u_T} {N : Nat} {ty : Nat → FieldType} {As rest st' : List Value} {fo : Option (Int × Mem)} {k : Int → Mem → Option (Int × Mem)} (hC : Ok C V cc own nL fr lc) (hM : Mv y K bytes mL rt n) (hlink : (own, ix, y, host) ∈ NST) (hK : Kt C.2.1 V L y (.code y bytes mL rt) fr1 lo1 (vR V.1 i :: As) rJ X fo) (hf : Cf ci K T N ty) (hA : At L i (ci, shs)) (hci : ci < 100) (hca : ca ≤ C.2.2.2.1.cells ∧ sl ≤ C.2.2.2.1.slots) (hn : As.length = n) (hst : st' = As.reverse ++ vR V.1 i :: rest) (hrm : fr1 + 1 ≤ fr ∧ 8 + (mL + 11) + lo1 ≤ lc) (hcat : (rest.map fun v => v.category).sum ≤ 8) (hdg : decode cc pc = .ok (.invokevirtual ix, 3)) (h : ∀ (r : Int) (X1 : Mem), G C V L ca sl nL (pc + 3) lv (vJ r :: rest) X1 (k r X1)) : G C V L ca sl nL pc lv st' X (cl fo k) := g_callN (rv := rJ) hC hM hlink hK hf hA hci hca hn hst hrm hcat hdg h
theorem g_callNV {y : MethodName} {K host : String} {bytes : ByteArray} {mL n ix fr1 lo1 ci : Nat} {rt : Option FieldType} {i : Int} {shs : List Int} {T : u_T} {N : Nat} {ty : Nat → FieldType} {As rest st' : List Value} {fo : Option (Int × Mem)} {k : Int → Mem → Option (Int × Mem)} (hC : Ok C V cc own nL fr lc) (hM : Mv y K bytes mL rt n) (hlink : (own, ix, y, host) ∈ NST) (hK : Kt C.2.1 V L y (.code y bytes mL rt) fr1 lo1 (vR V.1 i :: As) rV X fo) (hf : Cf ci K T N ty) (hA : At L i (ci, shs)) (hci : ci < 100) (hca : ca ≤ C.2.2.2.1.cells ∧ sl ≤ C.2.2.2.1.slots) (hn : As.length = n) (hst : st' = As.reverse ++ vR V.1 i :: rest) (hrm : fr1 + 1 ≤ fr ∧ 8 + (mL + 11) + lo1 ≤ lc) (hcat : (rest.map fun v => v.category).sum ≤ 8) (hdg : decode cc pc = .ok (.invokevirtual ix, 3)) (h : ∀ (r : Int) (X1 : Mem), G C V L ca sl nL (pc + 3) lv rest X1 (k r X1)) : G C V L ca sl nL pc lv st' X (cl fo k) := g_callN (rv := rV) hC hM hlink hK hf hA hci hca hn hst hrm hcat hdg h
theorem g_callSI {y : MethodName} {bytes : ByteArray} {mL n ix fr1 lo1 : Nat} {rt : Option FieldType} {As rest st' : List Value} {fo : Option (Int × Mem)} {k : Int → Mem → Option (Int × Mem)} (hC : Ok C V cc own nL fr lc) (hM : Mst y bytes mL rt n) (hlink : Cond.methodLink own ix y ∈ WS) (hK : Kt C.2.1 V L y (.code y bytes mL rt) fr1 lo1 As rI X fo) (hca : ca ≤ C.2.2.2.1.cells ∧ sl ≤ C.2.2.2.1.slots) (hn : As.length = n) (hst : st' = As.reverse ++ rest) (hrm : fr1 + 1 ≤ fr ∧ 8 + (mL + 11) + lo1 ≤ lc) (hcat : (rest.map fun v => v.category).sum ≤ 8) (hdg : decode cc pc = .ok (.invokestatic ix, 3)) (h : ∀ (r : Int) (X1 : Mem), G C V L ca sl nL (pc + 3) lv (vI r :: rest) X1 (k r X1)) : G C V L ca sl nL pc lv st' X (cl fo k) := g_callS (rv := rI) hC hM hlink hK hca hn hst hrm hcat hdg h
theorem g_callSJ {y : MethodName} {bytes : ByteArray} {mL n ix fr1 lo1 : Nat} {rt : Option FieldType} {As rest st' : List Value} {fo : Option (Int × Mem)} {k : Int → Mem → Option (Int × Mem)} (hC : Ok C V cc own nL fr lc) (hM : Mst y bytes mL rt n) (hlink : Cond.methodLink own ix y ∈ WS) (hK : Kt C.2.1 V L y (.code y bytes mL rt) fr1 lo1 As rJ X fo) (hca : ca ≤ C.2.2.2.1.cells ∧ sl ≤ C.2.2.2.1.slots) (hn : As.length = n) (hst : st' = As.reverse ++ rest) (hrm : fr1 + 1 ≤ fr ∧ 8 + (mL + 11) + lo1 ≤ lc) (hcat : (rest.map fun v => v.category).sum ≤ 8) (hdg : decode cc pc = .ok (.invokestatic ix, 3)) (h : ∀ (r : Int) (X1 : Mem), G C V L ca sl nL (pc + 3) lv (vJ r :: rest) X1 (k r X1)) : G C V L ca sl nL pc lv st' X (cl fo k) := g_callS (rv := rJ) hC hM hlink hK hca hn hst hrm hcat hdg h
theorem g_callSV {y : MethodName} {bytes : ByteArray} {mL n ix fr1 lo1 : Nat} {rt : Option FieldType} {As rest st' : List Value} {fo : Option (Int × Mem)} {k : Int → Mem → Option (Int × Mem)} (hC : Ok C V cc own nL fr lc) (hM : Mst y bytes mL rt n) (hlink : Cond.methodLink own ix y ∈ WS) (hK : Kt C.2.1 V L y (.code y bytes mL rt) fr1 lo1 As rV X fo) (hca : ca ≤ C.2.2.2.1.cells ∧ sl ≤ C.2.2.2.1.slots) (hn : As.length = n) (hst : st' = As.reverse ++ rest) (hrm : fr1 + 1 ≤ fr ∧ 8 + (mL + 11) + lo1 ≤ lc) (hcat : (rest.map fun v => v.category).sum ≤ 8) (hdg : decode cc pc = .ok (.invokestatic ix, 3)) (h : ∀ (r : Int) (X1 : Mem), G C V L ca sl nL (pc + 3) lv rest X1 (k r X1)) : G C V L ca sl nL pc lv st' X (cl fo k) := g_callS (rv := rV) hC hM hlink hK hca hn hst hrm hcat hdg h
theorem g_callSNI {y : MethodName} {host : String} {bytes : ByteArray} {mL n ix fr1 lo1 : Nat} {rt : Option FieldType} {As rest st' : List Value} {fo : Option (Int × Mem)} {k : Int → Mem → Option (Int × Mem)} (hC : Ok C V cc own nL fr lc) (hM : Mst y bytes mL rt n) (hlink : (own, ix, y, host) ∈ NST) (hK : Kt C.2.1 V L y (.code y bytes mL rt) fr1 lo1 As rI X fo) (hca : ca ≤ C.2.2.2.1.cells ∧ sl ≤ C.2.2.2.1.slots) (hn : As.length = n) (hst : st' = As.reverse ++ rest) (hrm : fr1 + 1 ≤ fr ∧ 8 + (mL + 11) + lo1 ≤ lc) (hcat : (rest.map fun v => v.category).sum ≤ 8) (hdg : decode cc pc = .ok (.invokestatic ix, 3)) (h : ∀ (r : Int) (X1 : Mem), G C V L ca sl nL (pc + 3) lv (vI r :: rest) X1 (k r X1)) : G C V L ca sl nL pc lv st' X (cl fo k) := g_callSN (rv := rI) hC hM hlink hK hca hn hst hrm hcat hdg h
theorem g_callSNJ {y : MethodName} {host : String} {bytes : ByteArray} {mL n ix fr1 lo1 : Nat} {rt : Option FieldType} {As rest st' : List Value} {fo : Option (Int × Mem)} {k : Int → Mem → Option (Int × Mem)} (hC : Ok C V cc own nL fr lc) (hM : Mst y bytes mL rt n) (hlink : (own, ix, y, host) ∈ NST) (hK : Kt C.2.1 V L y (.code y bytes mL rt) fr1 lo1 As rJ X fo) (hca : ca ≤ C.2.2.2.1.cells ∧ sl ≤ C.2.2.2.1.slots) (hn : As.length = n) (hst : st' = As.reverse ++ rest) (hrm : fr1 + 1 ≤ fr ∧ 8 + (mL + 11) + lo1 ≤ lc) (hcat : (rest.map fun v => v.category).sum ≤ 8) (hdg : decode cc pc = .ok (.invokestatic ix, 3)) (h : ∀ (r : Int) (X1 : Mem), G C V L ca sl nL (pc + 3) lv (vJ r :: rest) X1 (k r X1)) : G C V L ca sl nL pc lv st' X (cl fo k) := g_callSN (rv := rJ) hC hM hlink hK hca hn hst hrm hcat hdg h
theorem g_callSNV {y : MethodName} {host : String} {bytes : ByteArray} {mL n ix fr1 lo1 : Nat} {rt : Option FieldType} {As rest st' : List Value} {fo : Option (Int × Mem)} {k : Int → Mem → Option (Int × Mem)} (hC : Ok C V cc own nL fr lc) (hM : Mst y bytes mL rt n) (hlink : (own, ix, y, host) ∈ NST) (hK : Kt C.2.1 V L y (.code y bytes mL rt) fr1 lo1 As rV X fo) (hca : ca ≤ C.2.2.2.1.cells ∧ sl ≤ C.2.2.2.1.slots) (hn : As.length = n) (hst : st' = As.reverse ++ rest) (hrm : fr1 + 1 ≤ fr ∧ 8 + (mL + 11) + lo1 ≤ lc) (hcat : (rest.map fun v => v.category).sum ≤ 8) (hdg : decode cc pc = .ok (.invokestatic ix, 3)) (h : ∀ (r : Int) (X1 : Mem), G C V L ca sl nL (pc + 3) lv rest X1 (k r X1)) : G C V L ca sl nL pc lv st' X (cl fo k) := g_callSN (rv := rV) hC hM hlink hK hca hn hst hrm hcat hdg h
/-- a literal's bytes -/
def vB (V : Ev) (i : Nat) : Value := .ref (V.2.2.2.2.1 i)
theorem sB_ok : ∀ i : Nat, i < nSt → (sB i).length ≤ 200 ∧ ∀ b ∈ sB i, 0 ≤ b ∧ b ≤ 127 := by decide +kernel
theorem g_sval {i ix : Nat} (hC : Ok C V cc own nL fr lc) (hi : i < nSt) (hlink : Cond.fieldLink own ix "java/lang/String" "value" "[B" ∈ WS) (hdg : decode cc pc = .ok (.getfield ix, 3)) (h : G C V L ca sl nL (pc + 3) lv (vB V i :: st) X f) : G C V L ca sl nL pc lv (vS V i :: st) X f := by
  intro hk H locs ls hP hS hl
  exact vk_getf hC.1 hC.2.1 (hC.2.2.2.2.2.1.2.2.2.1 i hi).2.2.2.1 hS hC.2.2.2.1 (hC.2.2.2.2.1 _ hlink) (fun _ q => q) hdg (h hk H locs ls hP hS hl)
theorem g_scod {i ix : Nat} (hC : Ok C V cc own nL fr lc) (hi : i < nSt) (hlink : Cond.fieldLink own ix "java/lang/String" "coder" "B" ∈ WS) (hdg : decode cc pc = .ok (.getfield ix, 3)) (h : G C V L ca sl nL (pc + 3) lv (vI 0 :: st) X f) : G C V L ca sl nL pc lv (vS V i :: st) X f := by
  intro hk H locs ls hP hS hl
  exact vk_getf hC.1 hC.2.1 (hC.2.2.2.2.2.1.2.2.2.1 i hi).2.2.1 hS hC.2.2.2.1 (hC.2.2.2.2.1 _ hlink) (fun _ q => q) hdg (h hk H locs ls hP hS hl)
theorem g_blen {i : Nat} (hC : Ok C V cc own nL fr lc) (hi : i < nSt) (hdg : decode cc pc = .ok (.arraylength, 1)) (h : G C V L ca sl nL (pc + 1) lv (vI ((sB i).length : Int) :: st) X f) : G C V L ca sl nL pc lv (vB V i :: st) X f := by
  intro hk H locs ls hP hS hl
  exact va_tlen hC.1 hC.2.1 (hC.2.2.2.2.2.1.2.2.2.1 i hi).2.2.2.2 hS (by rw [← Int32.ofInt_eq_ofNat]) hdg (h hk H locs ls hP hS hl)
theorem g_bsald {i : Nat} {j : Int} (hC : Ok C V cc own nL fr lc) (hi : i < nSt) (hdg : decode cc pc = .ok (.baload, 1)) (h : G C V L ca sl nL (pc + 1) lv (vI (tl (sB i) j) :: st) X f) : G C V L ca sl nL pc lv (vI j :: vB V i :: st) X (ax ((sB i).length : Int) j f) := by
  refine g_ax fun hj hk H locs ls hP hS hl => ?_
  have hlen := (sB_ok i hi).1
  have hcl := i32_clamp (a := j) ⟨hj.1, by omega⟩
  refine va_tb hC.1 hC.2.1 (hC.2.2.2.2.2.1.2.2.2.1 i hi).2.2.2.2 hS (i := Int32.ofInt j) (v := vI (tl (sB i) j)) ?_ ?_ hdg (h hk H locs ls hP hS hl)
  · rintro (q | q)
    · exact absurd ((i32_lt (b := 0) ⟨by omega, by omega⟩ (by decide)).mp q) (by omega)
    · rw [hcl] at q
      omega
  · rw [hcl, Int.toNat_of_nonneg hj.1]
theorem g_getCS {ix : Nat} (hC : Ok C V cc own nL fr lc) (hlink : Cond.fieldLink own ix "java/lang/String" "COMPACT_STRINGS" "Z" ∈ WS) (hdg : decode cc pc = .ok (.getstatic ix, 3)) (h : G C V L ca sl nL (pc + 3) lv (vI 1 :: st) X f) : G C V L ca sl nL pc lv st X f := by
  intro hk H locs ls hP hS hl
  exact va_gets hC.1 hC.2.1 hC.2.2.2.2.2.1.2.2.2.2.1 hS hC.2.2.2.1 (hC.2.2.2.2.1 _ hlink) (fun _ q => q) hdg (h hk H locs ls hP hS hl)
theorem g_getFM {ix : Nat} (hC : Ok C V cc own nL fr lc) (hlink : Cond.fieldLink own ix "jdk/internal/util/Preconditions" "SIOOBE_FORMATTER" "Ljava/util/function/BiFunction;" ∈ WS) (hdg : decode cc pc = .ok (.getstatic ix, 3)) (h1 : G C V L ca sl nL (pc + 3) lv (.null :: st) X f) (h2 : ∀ t : Nat, G C V L ca sl nL (pc + 3) lv (.ref t :: st) X f) : G C V L ca sl nL pc lv st X f := by
  intro hk H locs ls hP hS hl
  rcases hC.2.2.2.2.2.1.2.2.2.2.2.1 with hZ | ⟨t, hZ⟩
  · exact va_gets hC.1 hC.2.1 hZ hS hC.2.2.2.1 (hC.2.2.2.2.1 _ hlink) (fun _ q => q) hdg (h1 hk H locs ls hP hS hl)
  · exact va_gets hC.1 hC.2.1 hZ hS hC.2.2.2.1 (hC.2.2.2.2.1 _ hlink) (fun _ q => q) hdg (h2 t hk H locs ls hP hS hl)
/-- the end of a method whose answer is of a small type -/
theorem g_sret {a : Int} {ty : FieldType} (hC : Ok C V cc own nL fr lc) (hR : Rt C V L (some ty) rI) (hn : narrow ty (.int (Int32.ofInt a)) = .int (Int32.ofInt a)) (hdg : decode cc pc = .ok (.ireturn, 1)) : G C V L 0 0 nL pc lv [vI a] X (some (a, X)) := by
  intro hk H locs ls hP hS hl
  obtain ⟨hr, hlk, hQ⟩ := hR
  rw [hQ]
  refine W.zret hC.1 hC.2.1 hr hn (fun t ht hW => ?_) hS.2.2 hdg hlk
  rw [← Option.some.inj hk]
  exact ⟨rfl, by rw [ht]; exact hP, hS.F ht⟩
theorem g_callZ {y : MethodName} {bytes : ByteArray} {mL n ix fr1 lo1 i : Nat} {rt : Option FieldType} {rv : Int → Option Value} {As rest st' : List Value} {fo : Option (Int × Mem)} {k : Int → Mem → Option (Int × Mem)}
    (hC : Ok C V cc own nL fr lc) (hi : i < nSt) (hM : Mv y "java/lang/String" bytes mL rt n) (hlink : Cond.methodLink own ix y ∈ WS) (hK : Kt C.2.1 V L y (.code y bytes mL rt) fr1 lo1 (vS V i :: As) rv X fo) (hca : ca ≤ C.2.2.2.1.cells ∧ sl ≤ C.2.2.2.1.slots)
    (hn : As.length = n) (hst : st' = As.reverse ++ vS V i :: rest) (hrm : fr1 + 1 ≤ fr ∧ 8 + (mL + 11) + lo1 ≤ lc) (hcat : (rest.map fun v => v.category).sum ≤ 8) (hdg : decode cc pc = .ok (.invokevirtual ix, 3))
    (h : ∀ (r : Int) (X1 : Mem), G C V L ca sl nL (pc + 3) lv ((rv r).toList ++ rest) X1 (k r X1)) : G C V L ca sl nL pc lv st' X (cl fo k) := by
  subst hst
  intro hk H locs ls hP hS hl
  obtain ⟨_ | ⟨r, X1⟩, hfo⟩ : ∃ z, fo = z := ⟨_, rfl⟩
  · rw [hfo] at hk; cases hk
  rw [hfo] at hk
  have hcw : CallW C.2.2.2.1 C.2.2.2.2.1 C.2.2.2.2.2.2.1 own "java/lang/String" ix y bytes mL rt (Cond.code y bytes mL rt :: WS) { frames := fr1, cells := 0, slots := 0, locals := lo1 } 0 0 n :=
    cwV n hC.2.2.2.2.1 (ws_v hlink hM.1 hM.2.1 hM.2.2.1 (ws_c hM.2.2.2.1)) rfl rfl rfl hM.2.2.2.2 ⟨Nat.le_trans hrm.1 hC.2.2.2.2.2.2.1, Nat.le_trans hrm.2 hC.2.2.2.2.2.2.2⟩
  have hrecv : ∃ cell : Cell, H[V.2.2.2.1 i]? = some cell ∧ cell.vm.isStatics = false ∧ C.2.2.2.2.1.vm.findClass "java/lang/String" = some cell.cls := by
    obtain ⟨cell, h1, h2, h3, -⟩ := (hC.2.2.2.2.2.1.2.2.2.1 i hi).2.1.kept hS.2.1
    exact ⟨cell, h1, h2, h3⟩
  exact g_ran (L := L) (va_runV (As := As) (rest := rest) ⟨hC.1, hC.2.1, hC.2.2.1, hC.2.2.2.1, hC.2.2.2.2.1⟩ (hK r X1 hfo) hcw ⟨Kt_blind, hrecv, Kt_pre hC hP hS⟩ rfl hn hl.1 rfl (lv_room hcat) hdg hca) hS (fun H1 locs1 hP1 hS1 => h r X1 hk H1 locs1 ls hP1 hS1 hl)
end GL
