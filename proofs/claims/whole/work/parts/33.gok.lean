/-! ===== the cells that both objects are made of ===== -/
def q_shpL : List (Nat × Nat) := [(10, 10), (37, 8), (38, 3), (20, 80), (4, 11), (20, 200), (30, 12), (20, 4), (5, 5), (21, 16), (3, 2), (20, 600), (3, 2), (20, 48), (6, 3), (20, 16), (20, 16), (6, 3), (20, 16), (20, 16), (2, 14), (3, 2), (20, 600), (9, 4), (20, 32), (20, 32), (20, 32), (20, 32), (21, 16), (21, 32), (20, 16), (20, 16), (6, 3), (20, 16), (20, 16), (6, 3), (20, 16), (20, 16), (3, 2), (20, 48), (2, 14), (3, 2), (20, 600), (9, 4), (20, 32), (20, 32), (20, 32), (20, 32), (21, 16), (21, 32), (20, 16), (20, 16), (6, 3), (20, 16), (20, 16), (6, 3), (20, 16), (20, 16), (3, 2), (20, 48), (1, 7), (20, 16), (7, 3), (20, 600), (7, 3), (20, 600), (7, 3), (20, 600), (7, 3), (20, 600), (7, 3), (20, 600), (7, 3), (20, 600), (7, 3), (20, 600), (7, 3), (20, 600), (8, 2), (6, 3), (20, 16), (20, 16), (9, 4), (20, 32), (20, 32), (20, 32), (20, 32), (8, 2), (6, 3), (20, 16), (20, 16), (9, 4), (20, 32), (20, 32), (20, 32), (20, 32), (8, 2), (6, 3), (20, 16), (20, 16), (9, 4), (20, 32), (20, 32), (20, 32), (20, 32), (11, 66), (20, 8), (20, 8), (20, 4800), (20, 3), (20, 42), (20, 42), (20, 16), (20, 16), (20, 272), (20, 272), (20, 80), (20, 12), (20, 12), (20, 12), (20, 12), (20, 12), (20, 200), (20, 600), (21, 16), (20, 40), (20, 40), (20, 64), (20, 600), (21, 16), (20, 16), (20, 16), (20, 16), (20, 40), (20, 40), (20, 40), (20, 40), (20, 40), (20, 16), (20, 16), (20, 64), (20, 16)]
def q_rfsL : List (List (Option Nat)) := [[some 33, some 34, some 35, none, some 36, some 40, some 52, some 72, some 92], [some 94, some 96, some 98, some 100, some 102, some 104, some 106, some 108], [some 110, some 119, some 128], [], [some 37, none, some 38, none, none, none, none, none, some 39], [], [], [], [some 41, some 42, some 44, some 46, some 49], [], [some 43], [], [some 45], [], [some 47, some 48], [], [], [some 50, some 51], [], [], [some 53, none, none, some 55, some 60, some 61, some 62, some 63, none, none, some 64, some 67, none, some 70], [some 54], [], [some 56, some 57, some 58, some 59], [], [], [], [], [], [], [], [], [some 65, some 66], [], [], [some 68, some 69], [], [], [some 71], [], [some 73, none, none, some 75, some 80, some 81, some 82, some 83, none, none, some 84, some 87, none, some 90], [some 74], [], [some 76, some 77, some 78, some 79], [], [], [], [], [], [], [], [], [some 85, some 86], [], [], [some 88, some 89], [], [], [some 91], [], [some 93], [], [some 95], [], [some 97], [], [some 99], [], [some 101], [], [some 103], [], [some 105], [], [some 107], [], [some 109], [], [some 111, some 114], [some 112, some 113], [], [], [some 115, some 116, some 117, some 118], [], [], [], [], [some 120, some 123], [some 121, some 122], [], [], [some 124, some 125, some 126, some 127], [], [], [], [], [some 129, some 132], [some 130, some 131], [], [], [some 133, some 134, some 135, some 136], [], [], [], [], [none, none, some 138, some 139, some 140, some 141, some 142, some 143, none, some 144, some 145, some 146, some 147, none, some 148, none, some 149, some 150, some 151, some 152, some 153, none, some 154, none, none, none, none, none, none, none, none, none, none, some 155, some 156, some 157, some 158, none, some 159, none, some 160, none, none, none, none, some 161, some 162, some 163, some 164, some 165, some 166, some 167, some 168, some 169, none, none, none, none, none, some 170, some 171, none, none, some 172, some 173], [], [], [], [], [], [], [], [], [], [], [], [], [], [], [], [], [], [], [], [], [], [], [], [], [], [], [], [], [], [], [], [], [], [], [], []]
def gok (G : q_Gr) : Prop := (∀ a, 32 ≤ a → a < 174 → G.2.1 a = q_shpL.getD (a - 32) (0, 0)) ∧ (∀ a k, 32 ≤ a → a < 174 → a ≠ 38 → G.1 a k = (q_rfsL.getD (a - 32) []).getD k none) ∧ (∀ a, a < 5 → 1 ≤ a → G.2.1 a = (20, 7)) ∧ (∀ a, a < 12 → 5 ≤ a → G.2.1 a = (50, (q_cst.getD a []).length)) ∧ 142 ≤ G.2.2.1
theorem sh_32 {G : q_Gr} (h : gok G) : G.2.1 32 = (10, 10) := by rw [h.1 32 (by decide) (by decide)]; rfl
theorem sh_33 {G : q_Gr} (h : gok G) : G.2.1 33 = (37, 8) := by rw [h.1 33 (by decide) (by decide)]; rfl
theorem sh_34 {G : q_Gr} (h : gok G) : G.2.1 34 = (38, 3) := by rw [h.1 34 (by decide) (by decide)]; rfl
theorem sh_35 {G : q_Gr} (h : gok G) : G.2.1 35 = (20, 80) := by rw [h.1 35 (by decide) (by decide)]; rfl
theorem sh_36 {G : q_Gr} (h : gok G) : G.2.1 36 = (4, 11) := by rw [h.1 36 (by decide) (by decide)]; rfl
theorem sh_37 {G : q_Gr} (h : gok G) : G.2.1 37 = (20, 200) := by rw [h.1 37 (by decide) (by decide)]; rfl
theorem sh_38 {G : q_Gr} (h : gok G) : G.2.1 38 = (30, 12) := by rw [h.1 38 (by decide) (by decide)]; rfl
theorem sh_39 {G : q_Gr} (h : gok G) : G.2.1 39 = (20, 4) := by rw [h.1 39 (by decide) (by decide)]; rfl
theorem sh_40 {G : q_Gr} (h : gok G) : G.2.1 40 = (5, 5) := by rw [h.1 40 (by decide) (by decide)]; rfl
theorem sh_41 {G : q_Gr} (h : gok G) : G.2.1 41 = (21, 16) := by rw [h.1 41 (by decide) (by decide)]; rfl
theorem sh_42 {G : q_Gr} (h : gok G) : G.2.1 42 = (3, 2) := by rw [h.1 42 (by decide) (by decide)]; rfl
theorem sh_43 {G : q_Gr} (h : gok G) : G.2.1 43 = (20, 600) := by rw [h.1 43 (by decide) (by decide)]; rfl
theorem sh_44 {G : q_Gr} (h : gok G) : G.2.1 44 = (3, 2) := by rw [h.1 44 (by decide) (by decide)]; rfl
theorem sh_45 {G : q_Gr} (h : gok G) : G.2.1 45 = (20, 48) := by rw [h.1 45 (by decide) (by decide)]; rfl
theorem sh_46 {G : q_Gr} (h : gok G) : G.2.1 46 = (6, 3) := by rw [h.1 46 (by decide) (by decide)]; rfl
theorem sh_47 {G : q_Gr} (h : gok G) : G.2.1 47 = (20, 16) := by rw [h.1 47 (by decide) (by decide)]; rfl
theorem sh_48 {G : q_Gr} (h : gok G) : G.2.1 48 = (20, 16) := by rw [h.1 48 (by decide) (by decide)]; rfl
theorem sh_49 {G : q_Gr} (h : gok G) : G.2.1 49 = (6, 3) := by rw [h.1 49 (by decide) (by decide)]; rfl
theorem sh_50 {G : q_Gr} (h : gok G) : G.2.1 50 = (20, 16) := by rw [h.1 50 (by decide) (by decide)]; rfl
theorem sh_51 {G : q_Gr} (h : gok G) : G.2.1 51 = (20, 16) := by rw [h.1 51 (by decide) (by decide)]; rfl
theorem sh_52 {G : q_Gr} (h : gok G) : G.2.1 52 = (2, 14) := by rw [h.1 52 (by decide) (by decide)]; rfl
theorem sh_53 {G : q_Gr} (h : gok G) : G.2.1 53 = (3, 2) := by rw [h.1 53 (by decide) (by decide)]; rfl
theorem sh_54 {G : q_Gr} (h : gok G) : G.2.1 54 = (20, 600) := by rw [h.1 54 (by decide) (by decide)]; rfl
theorem sh_55 {G : q_Gr} (h : gok G) : G.2.1 55 = (9, 4) := by rw [h.1 55 (by decide) (by decide)]; rfl
theorem sh_56 {G : q_Gr} (h : gok G) : G.2.1 56 = (20, 32) := by rw [h.1 56 (by decide) (by decide)]; rfl
theorem sh_57 {G : q_Gr} (h : gok G) : G.2.1 57 = (20, 32) := by rw [h.1 57 (by decide) (by decide)]; rfl
theorem sh_58 {G : q_Gr} (h : gok G) : G.2.1 58 = (20, 32) := by rw [h.1 58 (by decide) (by decide)]; rfl
theorem sh_59 {G : q_Gr} (h : gok G) : G.2.1 59 = (20, 32) := by rw [h.1 59 (by decide) (by decide)]; rfl
theorem sh_60 {G : q_Gr} (h : gok G) : G.2.1 60 = (21, 16) := by rw [h.1 60 (by decide) (by decide)]; rfl
theorem sh_61 {G : q_Gr} (h : gok G) : G.2.1 61 = (21, 32) := by rw [h.1 61 (by decide) (by decide)]; rfl
theorem sh_62 {G : q_Gr} (h : gok G) : G.2.1 62 = (20, 16) := by rw [h.1 62 (by decide) (by decide)]; rfl
theorem sh_63 {G : q_Gr} (h : gok G) : G.2.1 63 = (20, 16) := by rw [h.1 63 (by decide) (by decide)]; rfl
theorem sh_64 {G : q_Gr} (h : gok G) : G.2.1 64 = (6, 3) := by rw [h.1 64 (by decide) (by decide)]; rfl
theorem sh_65 {G : q_Gr} (h : gok G) : G.2.1 65 = (20, 16) := by rw [h.1 65 (by decide) (by decide)]; rfl
theorem sh_66 {G : q_Gr} (h : gok G) : G.2.1 66 = (20, 16) := by rw [h.1 66 (by decide) (by decide)]; rfl
theorem sh_67 {G : q_Gr} (h : gok G) : G.2.1 67 = (6, 3) := by rw [h.1 67 (by decide) (by decide)]; rfl
theorem sh_68 {G : q_Gr} (h : gok G) : G.2.1 68 = (20, 16) := by rw [h.1 68 (by decide) (by decide)]; rfl
theorem sh_69 {G : q_Gr} (h : gok G) : G.2.1 69 = (20, 16) := by rw [h.1 69 (by decide) (by decide)]; rfl
theorem sh_70 {G : q_Gr} (h : gok G) : G.2.1 70 = (3, 2) := by rw [h.1 70 (by decide) (by decide)]; rfl
theorem sh_71 {G : q_Gr} (h : gok G) : G.2.1 71 = (20, 48) := by rw [h.1 71 (by decide) (by decide)]; rfl
theorem sh_72 {G : q_Gr} (h : gok G) : G.2.1 72 = (2, 14) := by rw [h.1 72 (by decide) (by decide)]; rfl
theorem sh_73 {G : q_Gr} (h : gok G) : G.2.1 73 = (3, 2) := by rw [h.1 73 (by decide) (by decide)]; rfl
theorem sh_74 {G : q_Gr} (h : gok G) : G.2.1 74 = (20, 600) := by rw [h.1 74 (by decide) (by decide)]; rfl
theorem sh_75 {G : q_Gr} (h : gok G) : G.2.1 75 = (9, 4) := by rw [h.1 75 (by decide) (by decide)]; rfl
theorem sh_76 {G : q_Gr} (h : gok G) : G.2.1 76 = (20, 32) := by rw [h.1 76 (by decide) (by decide)]; rfl
theorem sh_77 {G : q_Gr} (h : gok G) : G.2.1 77 = (20, 32) := by rw [h.1 77 (by decide) (by decide)]; rfl
theorem sh_78 {G : q_Gr} (h : gok G) : G.2.1 78 = (20, 32) := by rw [h.1 78 (by decide) (by decide)]; rfl
theorem sh_79 {G : q_Gr} (h : gok G) : G.2.1 79 = (20, 32) := by rw [h.1 79 (by decide) (by decide)]; rfl
theorem sh_80 {G : q_Gr} (h : gok G) : G.2.1 80 = (21, 16) := by rw [h.1 80 (by decide) (by decide)]; rfl
theorem sh_81 {G : q_Gr} (h : gok G) : G.2.1 81 = (21, 32) := by rw [h.1 81 (by decide) (by decide)]; rfl
theorem sh_82 {G : q_Gr} (h : gok G) : G.2.1 82 = (20, 16) := by rw [h.1 82 (by decide) (by decide)]; rfl
theorem sh_83 {G : q_Gr} (h : gok G) : G.2.1 83 = (20, 16) := by rw [h.1 83 (by decide) (by decide)]; rfl
theorem sh_84 {G : q_Gr} (h : gok G) : G.2.1 84 = (6, 3) := by rw [h.1 84 (by decide) (by decide)]; rfl
theorem sh_85 {G : q_Gr} (h : gok G) : G.2.1 85 = (20, 16) := by rw [h.1 85 (by decide) (by decide)]; rfl
theorem sh_86 {G : q_Gr} (h : gok G) : G.2.1 86 = (20, 16) := by rw [h.1 86 (by decide) (by decide)]; rfl
theorem sh_87 {G : q_Gr} (h : gok G) : G.2.1 87 = (6, 3) := by rw [h.1 87 (by decide) (by decide)]; rfl
theorem sh_88 {G : q_Gr} (h : gok G) : G.2.1 88 = (20, 16) := by rw [h.1 88 (by decide) (by decide)]; rfl
theorem sh_89 {G : q_Gr} (h : gok G) : G.2.1 89 = (20, 16) := by rw [h.1 89 (by decide) (by decide)]; rfl
theorem sh_90 {G : q_Gr} (h : gok G) : G.2.1 90 = (3, 2) := by rw [h.1 90 (by decide) (by decide)]; rfl
theorem sh_91 {G : q_Gr} (h : gok G) : G.2.1 91 = (20, 48) := by rw [h.1 91 (by decide) (by decide)]; rfl
theorem sh_92 {G : q_Gr} (h : gok G) : G.2.1 92 = (1, 7) := by rw [h.1 92 (by decide) (by decide)]; rfl
theorem sh_93 {G : q_Gr} (h : gok G) : G.2.1 93 = (20, 16) := by rw [h.1 93 (by decide) (by decide)]; rfl
theorem sh_94 {G : q_Gr} (h : gok G) : G.2.1 94 = (7, 3) := by rw [h.1 94 (by decide) (by decide)]; rfl
theorem sh_95 {G : q_Gr} (h : gok G) : G.2.1 95 = (20, 600) := by rw [h.1 95 (by decide) (by decide)]; rfl
theorem sh_96 {G : q_Gr} (h : gok G) : G.2.1 96 = (7, 3) := by rw [h.1 96 (by decide) (by decide)]; rfl
theorem sh_97 {G : q_Gr} (h : gok G) : G.2.1 97 = (20, 600) := by rw [h.1 97 (by decide) (by decide)]; rfl
theorem sh_98 {G : q_Gr} (h : gok G) : G.2.1 98 = (7, 3) := by rw [h.1 98 (by decide) (by decide)]; rfl
theorem sh_99 {G : q_Gr} (h : gok G) : G.2.1 99 = (20, 600) := by rw [h.1 99 (by decide) (by decide)]; rfl
theorem sh_100 {G : q_Gr} (h : gok G) : G.2.1 100 = (7, 3) := by rw [h.1 100 (by decide) (by decide)]; rfl
theorem sh_101 {G : q_Gr} (h : gok G) : G.2.1 101 = (20, 600) := by rw [h.1 101 (by decide) (by decide)]; rfl
theorem sh_102 {G : q_Gr} (h : gok G) : G.2.1 102 = (7, 3) := by rw [h.1 102 (by decide) (by decide)]; rfl
theorem sh_103 {G : q_Gr} (h : gok G) : G.2.1 103 = (20, 600) := by rw [h.1 103 (by decide) (by decide)]; rfl
theorem sh_104 {G : q_Gr} (h : gok G) : G.2.1 104 = (7, 3) := by rw [h.1 104 (by decide) (by decide)]; rfl
theorem sh_105 {G : q_Gr} (h : gok G) : G.2.1 105 = (20, 600) := by rw [h.1 105 (by decide) (by decide)]; rfl
theorem sh_106 {G : q_Gr} (h : gok G) : G.2.1 106 = (7, 3) := by rw [h.1 106 (by decide) (by decide)]; rfl
theorem sh_107 {G : q_Gr} (h : gok G) : G.2.1 107 = (20, 600) := by rw [h.1 107 (by decide) (by decide)]; rfl
theorem sh_108 {G : q_Gr} (h : gok G) : G.2.1 108 = (7, 3) := by rw [h.1 108 (by decide) (by decide)]; rfl
theorem sh_109 {G : q_Gr} (h : gok G) : G.2.1 109 = (20, 600) := by rw [h.1 109 (by decide) (by decide)]; rfl
theorem sh_110 {G : q_Gr} (h : gok G) : G.2.1 110 = (8, 2) := by rw [h.1 110 (by decide) (by decide)]; rfl
theorem sh_111 {G : q_Gr} (h : gok G) : G.2.1 111 = (6, 3) := by rw [h.1 111 (by decide) (by decide)]; rfl
theorem sh_112 {G : q_Gr} (h : gok G) : G.2.1 112 = (20, 16) := by rw [h.1 112 (by decide) (by decide)]; rfl
theorem sh_113 {G : q_Gr} (h : gok G) : G.2.1 113 = (20, 16) := by rw [h.1 113 (by decide) (by decide)]; rfl
theorem sh_114 {G : q_Gr} (h : gok G) : G.2.1 114 = (9, 4) := by rw [h.1 114 (by decide) (by decide)]; rfl
theorem sh_115 {G : q_Gr} (h : gok G) : G.2.1 115 = (20, 32) := by rw [h.1 115 (by decide) (by decide)]; rfl
theorem sh_116 {G : q_Gr} (h : gok G) : G.2.1 116 = (20, 32) := by rw [h.1 116 (by decide) (by decide)]; rfl
theorem sh_117 {G : q_Gr} (h : gok G) : G.2.1 117 = (20, 32) := by rw [h.1 117 (by decide) (by decide)]; rfl
theorem sh_118 {G : q_Gr} (h : gok G) : G.2.1 118 = (20, 32) := by rw [h.1 118 (by decide) (by decide)]; rfl
theorem sh_119 {G : q_Gr} (h : gok G) : G.2.1 119 = (8, 2) := by rw [h.1 119 (by decide) (by decide)]; rfl
theorem sh_120 {G : q_Gr} (h : gok G) : G.2.1 120 = (6, 3) := by rw [h.1 120 (by decide) (by decide)]; rfl
theorem sh_121 {G : q_Gr} (h : gok G) : G.2.1 121 = (20, 16) := by rw [h.1 121 (by decide) (by decide)]; rfl
theorem sh_122 {G : q_Gr} (h : gok G) : G.2.1 122 = (20, 16) := by rw [h.1 122 (by decide) (by decide)]; rfl
theorem sh_123 {G : q_Gr} (h : gok G) : G.2.1 123 = (9, 4) := by rw [h.1 123 (by decide) (by decide)]; rfl
theorem sh_124 {G : q_Gr} (h : gok G) : G.2.1 124 = (20, 32) := by rw [h.1 124 (by decide) (by decide)]; rfl
theorem sh_125 {G : q_Gr} (h : gok G) : G.2.1 125 = (20, 32) := by rw [h.1 125 (by decide) (by decide)]; rfl
theorem sh_126 {G : q_Gr} (h : gok G) : G.2.1 126 = (20, 32) := by rw [h.1 126 (by decide) (by decide)]; rfl
theorem sh_127 {G : q_Gr} (h : gok G) : G.2.1 127 = (20, 32) := by rw [h.1 127 (by decide) (by decide)]; rfl
theorem sh_128 {G : q_Gr} (h : gok G) : G.2.1 128 = (8, 2) := by rw [h.1 128 (by decide) (by decide)]; rfl
theorem sh_129 {G : q_Gr} (h : gok G) : G.2.1 129 = (6, 3) := by rw [h.1 129 (by decide) (by decide)]; rfl
theorem sh_130 {G : q_Gr} (h : gok G) : G.2.1 130 = (20, 16) := by rw [h.1 130 (by decide) (by decide)]; rfl
theorem sh_131 {G : q_Gr} (h : gok G) : G.2.1 131 = (20, 16) := by rw [h.1 131 (by decide) (by decide)]; rfl
theorem sh_132 {G : q_Gr} (h : gok G) : G.2.1 132 = (9, 4) := by rw [h.1 132 (by decide) (by decide)]; rfl
theorem sh_133 {G : q_Gr} (h : gok G) : G.2.1 133 = (20, 32) := by rw [h.1 133 (by decide) (by decide)]; rfl
theorem sh_134 {G : q_Gr} (h : gok G) : G.2.1 134 = (20, 32) := by rw [h.1 134 (by decide) (by decide)]; rfl
theorem sh_135 {G : q_Gr} (h : gok G) : G.2.1 135 = (20, 32) := by rw [h.1 135 (by decide) (by decide)]; rfl
theorem sh_136 {G : q_Gr} (h : gok G) : G.2.1 136 = (20, 32) := by rw [h.1 136 (by decide) (by decide)]; rfl
theorem sh_137 {G : q_Gr} (h : gok G) : G.2.1 137 = (11, 66) := by rw [h.1 137 (by decide) (by decide)]; rfl
theorem sh_138 {G : q_Gr} (h : gok G) : G.2.1 138 = (20, 8) := by rw [h.1 138 (by decide) (by decide)]; rfl
theorem sh_139 {G : q_Gr} (h : gok G) : G.2.1 139 = (20, 8) := by rw [h.1 139 (by decide) (by decide)]; rfl
theorem sh_140 {G : q_Gr} (h : gok G) : G.2.1 140 = (20, 4800) := by rw [h.1 140 (by decide) (by decide)]; rfl
theorem sh_141 {G : q_Gr} (h : gok G) : G.2.1 141 = (20, 3) := by rw [h.1 141 (by decide) (by decide)]; rfl
theorem sh_142 {G : q_Gr} (h : gok G) : G.2.1 142 = (20, 42) := by rw [h.1 142 (by decide) (by decide)]; rfl
theorem sh_143 {G : q_Gr} (h : gok G) : G.2.1 143 = (20, 42) := by rw [h.1 143 (by decide) (by decide)]; rfl
theorem sh_144 {G : q_Gr} (h : gok G) : G.2.1 144 = (20, 16) := by rw [h.1 144 (by decide) (by decide)]; rfl
theorem sh_145 {G : q_Gr} (h : gok G) : G.2.1 145 = (20, 16) := by rw [h.1 145 (by decide) (by decide)]; rfl
theorem sh_146 {G : q_Gr} (h : gok G) : G.2.1 146 = (20, 272) := by rw [h.1 146 (by decide) (by decide)]; rfl
theorem sh_147 {G : q_Gr} (h : gok G) : G.2.1 147 = (20, 272) := by rw [h.1 147 (by decide) (by decide)]; rfl
theorem sh_148 {G : q_Gr} (h : gok G) : G.2.1 148 = (20, 80) := by rw [h.1 148 (by decide) (by decide)]; rfl
theorem sh_149 {G : q_Gr} (h : gok G) : G.2.1 149 = (20, 12) := by rw [h.1 149 (by decide) (by decide)]; rfl
theorem sh_150 {G : q_Gr} (h : gok G) : G.2.1 150 = (20, 12) := by rw [h.1 150 (by decide) (by decide)]; rfl
theorem sh_151 {G : q_Gr} (h : gok G) : G.2.1 151 = (20, 12) := by rw [h.1 151 (by decide) (by decide)]; rfl
theorem sh_152 {G : q_Gr} (h : gok G) : G.2.1 152 = (20, 12) := by rw [h.1 152 (by decide) (by decide)]; rfl
theorem sh_153 {G : q_Gr} (h : gok G) : G.2.1 153 = (20, 12) := by rw [h.1 153 (by decide) (by decide)]; rfl
theorem sh_154 {G : q_Gr} (h : gok G) : G.2.1 154 = (20, 200) := by rw [h.1 154 (by decide) (by decide)]; rfl
theorem sh_155 {G : q_Gr} (h : gok G) : G.2.1 155 = (20, 600) := by rw [h.1 155 (by decide) (by decide)]; rfl
theorem sh_156 {G : q_Gr} (h : gok G) : G.2.1 156 = (21, 16) := by rw [h.1 156 (by decide) (by decide)]; rfl
theorem sh_157 {G : q_Gr} (h : gok G) : G.2.1 157 = (20, 40) := by rw [h.1 157 (by decide) (by decide)]; rfl
theorem sh_158 {G : q_Gr} (h : gok G) : G.2.1 158 = (20, 40) := by rw [h.1 158 (by decide) (by decide)]; rfl
theorem sh_159 {G : q_Gr} (h : gok G) : G.2.1 159 = (20, 64) := by rw [h.1 159 (by decide) (by decide)]; rfl
theorem sh_160 {G : q_Gr} (h : gok G) : G.2.1 160 = (20, 600) := by rw [h.1 160 (by decide) (by decide)]; rfl
theorem sh_161 {G : q_Gr} (h : gok G) : G.2.1 161 = (21, 16) := by rw [h.1 161 (by decide) (by decide)]; rfl
theorem sh_162 {G : q_Gr} (h : gok G) : G.2.1 162 = (20, 16) := by rw [h.1 162 (by decide) (by decide)]; rfl
theorem sh_163 {G : q_Gr} (h : gok G) : G.2.1 163 = (20, 16) := by rw [h.1 163 (by decide) (by decide)]; rfl
theorem sh_164 {G : q_Gr} (h : gok G) : G.2.1 164 = (20, 16) := by rw [h.1 164 (by decide) (by decide)]; rfl
theorem sh_165 {G : q_Gr} (h : gok G) : G.2.1 165 = (20, 40) := by rw [h.1 165 (by decide) (by decide)]; rfl
theorem sh_166 {G : q_Gr} (h : gok G) : G.2.1 166 = (20, 40) := by rw [h.1 166 (by decide) (by decide)]; rfl
theorem sh_167 {G : q_Gr} (h : gok G) : G.2.1 167 = (20, 40) := by rw [h.1 167 (by decide) (by decide)]; rfl
theorem sh_168 {G : q_Gr} (h : gok G) : G.2.1 168 = (20, 40) := by rw [h.1 168 (by decide) (by decide)]; rfl
theorem sh_169 {G : q_Gr} (h : gok G) : G.2.1 169 = (20, 40) := by rw [h.1 169 (by decide) (by decide)]; rfl
theorem sh_170 {G : q_Gr} (h : gok G) : G.2.1 170 = (20, 16) := by rw [h.1 170 (by decide) (by decide)]; rfl
theorem sh_171 {G : q_Gr} (h : gok G) : G.2.1 171 = (20, 16) := by rw [h.1 171 (by decide) (by decide)]; rfl
theorem sh_172 {G : q_Gr} (h : gok G) : G.2.1 172 = (20, 64) := by rw [h.1 172 (by decide) (by decide)]; rfl
theorem sh_173 {G : q_Gr} (h : gok G) : G.2.1 173 = (20, 16) := by rw [h.1 173 (by decide) (by decide)]; rfl
theorem rf_32_0 {G : q_Gr} (h : gok G) : G.1 32 0 = some 33 := by rw [h.2.1 32 0 (by decide) (by decide) (by decide)]; rfl
theorem rf_32_1 {G : q_Gr} (h : gok G) : G.1 32 1 = some 34 := by rw [h.2.1 32 1 (by decide) (by decide) (by decide)]; rfl
theorem rf_32_2 {G : q_Gr} (h : gok G) : G.1 32 2 = some 35 := by rw [h.2.1 32 2 (by decide) (by decide) (by decide)]; rfl
theorem rf_32_4 {G : q_Gr} (h : gok G) : G.1 32 4 = some 36 := by rw [h.2.1 32 4 (by decide) (by decide) (by decide)]; rfl
theorem rf_32_5 {G : q_Gr} (h : gok G) : G.1 32 5 = some 40 := by rw [h.2.1 32 5 (by decide) (by decide) (by decide)]; rfl
theorem rf_32_6 {G : q_Gr} (h : gok G) : G.1 32 6 = some 52 := by rw [h.2.1 32 6 (by decide) (by decide) (by decide)]; rfl
theorem rf_32_7 {G : q_Gr} (h : gok G) : G.1 32 7 = some 72 := by rw [h.2.1 32 7 (by decide) (by decide) (by decide)]; rfl
theorem rf_32_8 {G : q_Gr} (h : gok G) : G.1 32 8 = some 92 := by rw [h.2.1 32 8 (by decide) (by decide) (by decide)]; rfl
theorem rf_33_0 {G : q_Gr} (h : gok G) : G.1 33 0 = some 94 := by rw [h.2.1 33 0 (by decide) (by decide) (by decide)]; rfl
theorem rf_33_1 {G : q_Gr} (h : gok G) : G.1 33 1 = some 96 := by rw [h.2.1 33 1 (by decide) (by decide) (by decide)]; rfl
theorem rf_33_2 {G : q_Gr} (h : gok G) : G.1 33 2 = some 98 := by rw [h.2.1 33 2 (by decide) (by decide) (by decide)]; rfl
theorem rf_33_3 {G : q_Gr} (h : gok G) : G.1 33 3 = some 100 := by rw [h.2.1 33 3 (by decide) (by decide) (by decide)]; rfl
theorem rf_33_4 {G : q_Gr} (h : gok G) : G.1 33 4 = some 102 := by rw [h.2.1 33 4 (by decide) (by decide) (by decide)]; rfl
theorem rf_33_5 {G : q_Gr} (h : gok G) : G.1 33 5 = some 104 := by rw [h.2.1 33 5 (by decide) (by decide) (by decide)]; rfl
theorem rf_33_6 {G : q_Gr} (h : gok G) : G.1 33 6 = some 106 := by rw [h.2.1 33 6 (by decide) (by decide) (by decide)]; rfl
theorem rf_33_7 {G : q_Gr} (h : gok G) : G.1 33 7 = some 108 := by rw [h.2.1 33 7 (by decide) (by decide) (by decide)]; rfl
theorem rf_34_0 {G : q_Gr} (h : gok G) : G.1 34 0 = some 110 := by rw [h.2.1 34 0 (by decide) (by decide) (by decide)]; rfl
theorem rf_34_1 {G : q_Gr} (h : gok G) : G.1 34 1 = some 119 := by rw [h.2.1 34 1 (by decide) (by decide) (by decide)]; rfl
theorem rf_34_2 {G : q_Gr} (h : gok G) : G.1 34 2 = some 128 := by rw [h.2.1 34 2 (by decide) (by decide) (by decide)]; rfl
theorem rf_36_0 {G : q_Gr} (h : gok G) : G.1 36 0 = some 37 := by rw [h.2.1 36 0 (by decide) (by decide) (by decide)]; rfl
theorem rf_36_2 {G : q_Gr} (h : gok G) : G.1 36 2 = some 38 := by rw [h.2.1 36 2 (by decide) (by decide) (by decide)]; rfl
theorem rf_36_8 {G : q_Gr} (h : gok G) : G.1 36 8 = some 39 := by rw [h.2.1 36 8 (by decide) (by decide) (by decide)]; rfl
theorem rf_40_0 {G : q_Gr} (h : gok G) : G.1 40 0 = some 41 := by rw [h.2.1 40 0 (by decide) (by decide) (by decide)]; rfl
theorem rf_40_1 {G : q_Gr} (h : gok G) : G.1 40 1 = some 42 := by rw [h.2.1 40 1 (by decide) (by decide) (by decide)]; rfl
theorem rf_40_2 {G : q_Gr} (h : gok G) : G.1 40 2 = some 44 := by rw [h.2.1 40 2 (by decide) (by decide) (by decide)]; rfl
theorem rf_40_3 {G : q_Gr} (h : gok G) : G.1 40 3 = some 46 := by rw [h.2.1 40 3 (by decide) (by decide) (by decide)]; rfl
theorem rf_40_4 {G : q_Gr} (h : gok G) : G.1 40 4 = some 49 := by rw [h.2.1 40 4 (by decide) (by decide) (by decide)]; rfl
theorem rf_42_0 {G : q_Gr} (h : gok G) : G.1 42 0 = some 43 := by rw [h.2.1 42 0 (by decide) (by decide) (by decide)]; rfl
theorem rf_44_0 {G : q_Gr} (h : gok G) : G.1 44 0 = some 45 := by rw [h.2.1 44 0 (by decide) (by decide) (by decide)]; rfl
theorem rf_46_0 {G : q_Gr} (h : gok G) : G.1 46 0 = some 47 := by rw [h.2.1 46 0 (by decide) (by decide) (by decide)]; rfl
theorem rf_46_1 {G : q_Gr} (h : gok G) : G.1 46 1 = some 48 := by rw [h.2.1 46 1 (by decide) (by decide) (by decide)]; rfl
theorem rf_49_0 {G : q_Gr} (h : gok G) : G.1 49 0 = some 50 := by rw [h.2.1 49 0 (by decide) (by decide) (by decide)]; rfl
theorem rf_49_1 {G : q_Gr} (h : gok G) : G.1 49 1 = some 51 := by rw [h.2.1 49 1 (by decide) (by decide) (by decide)]; rfl
theorem rf_52_0 {G : q_Gr} (h : gok G) : G.1 52 0 = some 53 := by rw [h.2.1 52 0 (by decide) (by decide) (by decide)]; rfl
theorem rf_52_3 {G : q_Gr} (h : gok G) : G.1 52 3 = some 55 := by rw [h.2.1 52 3 (by decide) (by decide) (by decide)]; rfl
theorem rf_52_4 {G : q_Gr} (h : gok G) : G.1 52 4 = some 60 := by rw [h.2.1 52 4 (by decide) (by decide) (by decide)]; rfl
theorem rf_52_5 {G : q_Gr} (h : gok G) : G.1 52 5 = some 61 := by rw [h.2.1 52 5 (by decide) (by decide) (by decide)]; rfl
theorem rf_52_6 {G : q_Gr} (h : gok G) : G.1 52 6 = some 62 := by rw [h.2.1 52 6 (by decide) (by decide) (by decide)]; rfl
theorem rf_52_7 {G : q_Gr} (h : gok G) : G.1 52 7 = some 63 := by rw [h.2.1 52 7 (by decide) (by decide) (by decide)]; rfl
theorem rf_52_10 {G : q_Gr} (h : gok G) : G.1 52 10 = some 64 := by rw [h.2.1 52 10 (by decide) (by decide) (by decide)]; rfl
theorem rf_52_11 {G : q_Gr} (h : gok G) : G.1 52 11 = some 67 := by rw [h.2.1 52 11 (by decide) (by decide) (by decide)]; rfl
theorem rf_52_13 {G : q_Gr} (h : gok G) : G.1 52 13 = some 70 := by rw [h.2.1 52 13 (by decide) (by decide) (by decide)]; rfl
theorem rf_53_0 {G : q_Gr} (h : gok G) : G.1 53 0 = some 54 := by rw [h.2.1 53 0 (by decide) (by decide) (by decide)]; rfl
theorem rf_55_0 {G : q_Gr} (h : gok G) : G.1 55 0 = some 56 := by rw [h.2.1 55 0 (by decide) (by decide) (by decide)]; rfl
theorem rf_55_1 {G : q_Gr} (h : gok G) : G.1 55 1 = some 57 := by rw [h.2.1 55 1 (by decide) (by decide) (by decide)]; rfl
theorem rf_55_2 {G : q_Gr} (h : gok G) : G.1 55 2 = some 58 := by rw [h.2.1 55 2 (by decide) (by decide) (by decide)]; rfl
theorem rf_55_3 {G : q_Gr} (h : gok G) : G.1 55 3 = some 59 := by rw [h.2.1 55 3 (by decide) (by decide) (by decide)]; rfl
theorem rf_64_0 {G : q_Gr} (h : gok G) : G.1 64 0 = some 65 := by rw [h.2.1 64 0 (by decide) (by decide) (by decide)]; rfl
theorem rf_64_1 {G : q_Gr} (h : gok G) : G.1 64 1 = some 66 := by rw [h.2.1 64 1 (by decide) (by decide) (by decide)]; rfl
theorem rf_67_0 {G : q_Gr} (h : gok G) : G.1 67 0 = some 68 := by rw [h.2.1 67 0 (by decide) (by decide) (by decide)]; rfl
theorem rf_67_1 {G : q_Gr} (h : gok G) : G.1 67 1 = some 69 := by rw [h.2.1 67 1 (by decide) (by decide) (by decide)]; rfl
theorem rf_70_0 {G : q_Gr} (h : gok G) : G.1 70 0 = some 71 := by rw [h.2.1 70 0 (by decide) (by decide) (by decide)]; rfl
theorem rf_72_0 {G : q_Gr} (h : gok G) : G.1 72 0 = some 73 := by rw [h.2.1 72 0 (by decide) (by decide) (by decide)]; rfl
theorem rf_72_3 {G : q_Gr} (h : gok G) : G.1 72 3 = some 75 := by rw [h.2.1 72 3 (by decide) (by decide) (by decide)]; rfl
theorem rf_72_4 {G : q_Gr} (h : gok G) : G.1 72 4 = some 80 := by rw [h.2.1 72 4 (by decide) (by decide) (by decide)]; rfl
theorem rf_72_5 {G : q_Gr} (h : gok G) : G.1 72 5 = some 81 := by rw [h.2.1 72 5 (by decide) (by decide) (by decide)]; rfl
theorem rf_72_6 {G : q_Gr} (h : gok G) : G.1 72 6 = some 82 := by rw [h.2.1 72 6 (by decide) (by decide) (by decide)]; rfl
theorem rf_72_7 {G : q_Gr} (h : gok G) : G.1 72 7 = some 83 := by rw [h.2.1 72 7 (by decide) (by decide) (by decide)]; rfl
theorem rf_72_10 {G : q_Gr} (h : gok G) : G.1 72 10 = some 84 := by rw [h.2.1 72 10 (by decide) (by decide) (by decide)]; rfl
theorem rf_72_11 {G : q_Gr} (h : gok G) : G.1 72 11 = some 87 := by rw [h.2.1 72 11 (by decide) (by decide) (by decide)]; rfl
theorem rf_72_13 {G : q_Gr} (h : gok G) : G.1 72 13 = some 90 := by rw [h.2.1 72 13 (by decide) (by decide) (by decide)]; rfl
theorem rf_73_0 {G : q_Gr} (h : gok G) : G.1 73 0 = some 74 := by rw [h.2.1 73 0 (by decide) (by decide) (by decide)]; rfl
theorem rf_75_0 {G : q_Gr} (h : gok G) : G.1 75 0 = some 76 := by rw [h.2.1 75 0 (by decide) (by decide) (by decide)]; rfl
theorem rf_75_1 {G : q_Gr} (h : gok G) : G.1 75 1 = some 77 := by rw [h.2.1 75 1 (by decide) (by decide) (by decide)]; rfl
theorem rf_75_2 {G : q_Gr} (h : gok G) : G.1 75 2 = some 78 := by rw [h.2.1 75 2 (by decide) (by decide) (by decide)]; rfl
theorem rf_75_3 {G : q_Gr} (h : gok G) : G.1 75 3 = some 79 := by rw [h.2.1 75 3 (by decide) (by decide) (by decide)]; rfl
theorem rf_84_0 {G : q_Gr} (h : gok G) : G.1 84 0 = some 85 := by rw [h.2.1 84 0 (by decide) (by decide) (by decide)]; rfl
theorem rf_84_1 {G : q_Gr} (h : gok G) : G.1 84 1 = some 86 := by rw [h.2.1 84 1 (by decide) (by decide) (by decide)]; rfl
theorem rf_87_0 {G : q_Gr} (h : gok G) : G.1 87 0 = some 88 := by rw [h.2.1 87 0 (by decide) (by decide) (by decide)]; rfl
theorem rf_87_1 {G : q_Gr} (h : gok G) : G.1 87 1 = some 89 := by rw [h.2.1 87 1 (by decide) (by decide) (by decide)]; rfl
theorem rf_90_0 {G : q_Gr} (h : gok G) : G.1 90 0 = some 91 := by rw [h.2.1 90 0 (by decide) (by decide) (by decide)]; rfl
theorem rf_92_0 {G : q_Gr} (h : gok G) : G.1 92 0 = some 93 := by rw [h.2.1 92 0 (by decide) (by decide) (by decide)]; rfl
theorem rf_94_0 {G : q_Gr} (h : gok G) : G.1 94 0 = some 95 := by rw [h.2.1 94 0 (by decide) (by decide) (by decide)]; rfl
theorem rf_96_0 {G : q_Gr} (h : gok G) : G.1 96 0 = some 97 := by rw [h.2.1 96 0 (by decide) (by decide) (by decide)]; rfl
theorem rf_98_0 {G : q_Gr} (h : gok G) : G.1 98 0 = some 99 := by rw [h.2.1 98 0 (by decide) (by decide) (by decide)]; rfl
theorem rf_100_0 {G : q_Gr} (h : gok G) : G.1 100 0 = some 101 := by rw [h.2.1 100 0 (by decide) (by decide) (by decide)]; rfl
theorem rf_102_0 {G : q_Gr} (h : gok G) : G.1 102 0 = some 103 := by rw [h.2.1 102 0 (by decide) (by decide) (by decide)]; rfl
theorem rf_104_0 {G : q_Gr} (h : gok G) : G.1 104 0 = some 105 := by rw [h.2.1 104 0 (by decide) (by decide) (by decide)]; rfl
theorem rf_106_0 {G : q_Gr} (h : gok G) : G.1 106 0 = some 107 := by rw [h.2.1 106 0 (by decide) (by decide) (by decide)]; rfl
theorem rf_108_0 {G : q_Gr} (h : gok G) : G.1 108 0 = some 109 := by rw [h.2.1 108 0 (by decide) (by decide) (by decide)]; rfl
theorem rf_110_0 {G : q_Gr} (h : gok G) : G.1 110 0 = some 111 := by rw [h.2.1 110 0 (by decide) (by decide) (by decide)]; rfl
theorem rf_110_1 {G : q_Gr} (h : gok G) : G.1 110 1 = some 114 := by rw [h.2.1 110 1 (by decide) (by decide) (by decide)]; rfl
theorem rf_111_0 {G : q_Gr} (h : gok G) : G.1 111 0 = some 112 := by rw [h.2.1 111 0 (by decide) (by decide) (by decide)]; rfl
theorem rf_111_1 {G : q_Gr} (h : gok G) : G.1 111 1 = some 113 := by rw [h.2.1 111 1 (by decide) (by decide) (by decide)]; rfl
theorem rf_114_0 {G : q_Gr} (h : gok G) : G.1 114 0 = some 115 := by rw [h.2.1 114 0 (by decide) (by decide) (by decide)]; rfl
theorem rf_114_1 {G : q_Gr} (h : gok G) : G.1 114 1 = some 116 := by rw [h.2.1 114 1 (by decide) (by decide) (by decide)]; rfl
theorem rf_114_2 {G : q_Gr} (h : gok G) : G.1 114 2 = some 117 := by rw [h.2.1 114 2 (by decide) (by decide) (by decide)]; rfl
theorem rf_114_3 {G : q_Gr} (h : gok G) : G.1 114 3 = some 118 := by rw [h.2.1 114 3 (by decide) (by decide) (by decide)]; rfl
theorem rf_119_0 {G : q_Gr} (h : gok G) : G.1 119 0 = some 120 := by rw [h.2.1 119 0 (by decide) (by decide) (by decide)]; rfl
theorem rf_119_1 {G : q_Gr} (h : gok G) : G.1 119 1 = some 123 := by rw [h.2.1 119 1 (by decide) (by decide) (by decide)]; rfl
theorem rf_120_0 {G : q_Gr} (h : gok G) : G.1 120 0 = some 121 := by rw [h.2.1 120 0 (by decide) (by decide) (by decide)]; rfl
theorem rf_120_1 {G : q_Gr} (h : gok G) : G.1 120 1 = some 122 := by rw [h.2.1 120 1 (by decide) (by decide) (by decide)]; rfl
theorem rf_123_0 {G : q_Gr} (h : gok G) : G.1 123 0 = some 124 := by rw [h.2.1 123 0 (by decide) (by decide) (by decide)]; rfl
theorem rf_123_1 {G : q_Gr} (h : gok G) : G.1 123 1 = some 125 := by rw [h.2.1 123 1 (by decide) (by decide) (by decide)]; rfl
theorem rf_123_2 {G : q_Gr} (h : gok G) : G.1 123 2 = some 126 := by rw [h.2.1 123 2 (by decide) (by decide) (by decide)]; rfl
theorem rf_123_3 {G : q_Gr} (h : gok G) : G.1 123 3 = some 127 := by rw [h.2.1 123 3 (by decide) (by decide) (by decide)]; rfl
theorem rf_128_0 {G : q_Gr} (h : gok G) : G.1 128 0 = some 129 := by rw [h.2.1 128 0 (by decide) (by decide) (by decide)]; rfl
theorem rf_128_1 {G : q_Gr} (h : gok G) : G.1 128 1 = some 132 := by rw [h.2.1 128 1 (by decide) (by decide) (by decide)]; rfl
theorem rf_129_0 {G : q_Gr} (h : gok G) : G.1 129 0 = some 130 := by rw [h.2.1 129 0 (by decide) (by decide) (by decide)]; rfl
theorem rf_129_1 {G : q_Gr} (h : gok G) : G.1 129 1 = some 131 := by rw [h.2.1 129 1 (by decide) (by decide) (by decide)]; rfl
theorem rf_132_0 {G : q_Gr} (h : gok G) : G.1 132 0 = some 133 := by rw [h.2.1 132 0 (by decide) (by decide) (by decide)]; rfl
theorem rf_132_1 {G : q_Gr} (h : gok G) : G.1 132 1 = some 134 := by rw [h.2.1 132 1 (by decide) (by decide) (by decide)]; rfl
theorem rf_132_2 {G : q_Gr} (h : gok G) : G.1 132 2 = some 135 := by rw [h.2.1 132 2 (by decide) (by decide) (by decide)]; rfl
theorem rf_132_3 {G : q_Gr} (h : gok G) : G.1 132 3 = some 136 := by rw [h.2.1 132 3 (by decide) (by decide) (by decide)]; rfl
theorem rf_137_2 {G : q_Gr} (h : gok G) : G.1 137 2 = some 138 := by rw [h.2.1 137 2 (by decide) (by decide) (by decide)]; rfl
theorem rf_137_3 {G : q_Gr} (h : gok G) : G.1 137 3 = some 139 := by rw [h.2.1 137 3 (by decide) (by decide) (by decide)]; rfl
theorem rf_137_4 {G : q_Gr} (h : gok G) : G.1 137 4 = some 140 := by rw [h.2.1 137 4 (by decide) (by decide) (by decide)]; rfl
theorem rf_137_5 {G : q_Gr} (h : gok G) : G.1 137 5 = some 141 := by rw [h.2.1 137 5 (by decide) (by decide) (by decide)]; rfl
theorem rf_137_6 {G : q_Gr} (h : gok G) : G.1 137 6 = some 142 := by rw [h.2.1 137 6 (by decide) (by decide) (by decide)]; rfl
theorem rf_137_7 {G : q_Gr} (h : gok G) : G.1 137 7 = some 143 := by rw [h.2.1 137 7 (by decide) (by decide) (by decide)]; rfl
theorem rf_137_9 {G : q_Gr} (h : gok G) : G.1 137 9 = some 144 := by rw [h.2.1 137 9 (by decide) (by decide) (by decide)]; rfl
theorem rf_137_10 {G : q_Gr} (h : gok G) : G.1 137 10 = some 145 := by rw [h.2.1 137 10 (by decide) (by decide) (by decide)]; rfl
theorem rf_137_11 {G : q_Gr} (h : gok G) : G.1 137 11 = some 146 := by rw [h.2.1 137 11 (by decide) (by decide) (by decide)]; rfl
theorem rf_137_12 {G : q_Gr} (h : gok G) : G.1 137 12 = some 147 := by rw [h.2.1 137 12 (by decide) (by decide) (by decide)]; rfl
theorem rf_137_14 {G : q_Gr} (h : gok G) : G.1 137 14 = some 148 := by rw [h.2.1 137 14 (by decide) (by decide) (by decide)]; rfl
theorem rf_137_16 {G : q_Gr} (h : gok G) : G.1 137 16 = some 149 := by rw [h.2.1 137 16 (by decide) (by decide) (by decide)]; rfl
theorem rf_137_17 {G : q_Gr} (h : gok G) : G.1 137 17 = some 150 := by rw [h.2.1 137 17 (by decide) (by decide) (by decide)]; rfl
theorem rf_137_18 {G : q_Gr} (h : gok G) : G.1 137 18 = some 151 := by rw [h.2.1 137 18 (by decide) (by decide) (by decide)]; rfl
theorem rf_137_19 {G : q_Gr} (h : gok G) : G.1 137 19 = some 152 := by rw [h.2.1 137 19 (by decide) (by decide) (by decide)]; rfl
theorem rf_137_20 {G : q_Gr} (h : gok G) : G.1 137 20 = some 153 := by rw [h.2.1 137 20 (by decide) (by decide) (by decide)]; rfl
theorem rf_137_22 {G : q_Gr} (h : gok G) : G.1 137 22 = some 154 := by rw [h.2.1 137 22 (by decide) (by decide) (by decide)]; rfl
theorem rf_137_33 {G : q_Gr} (h : gok G) : G.1 137 33 = some 155 := by rw [h.2.1 137 33 (by decide) (by decide) (by decide)]; rfl
theorem rf_137_34 {G : q_Gr} (h : gok G) : G.1 137 34 = some 156 := by rw [h.2.1 137 34 (by decide) (by decide) (by decide)]; rfl
theorem rf_137_35 {G : q_Gr} (h : gok G) : G.1 137 35 = some 157 := by rw [h.2.1 137 35 (by decide) (by decide) (by decide)]; rfl
theorem rf_137_36 {G : q_Gr} (h : gok G) : G.1 137 36 = some 158 := by rw [h.2.1 137 36 (by decide) (by decide) (by decide)]; rfl
theorem rf_137_38 {G : q_Gr} (h : gok G) : G.1 137 38 = some 159 := by rw [h.2.1 137 38 (by decide) (by decide) (by decide)]; rfl
theorem rf_137_40 {G : q_Gr} (h : gok G) : G.1 137 40 = some 160 := by rw [h.2.1 137 40 (by decide) (by decide) (by decide)]; rfl
theorem rf_137_45 {G : q_Gr} (h : gok G) : G.1 137 45 = some 161 := by rw [h.2.1 137 45 (by decide) (by decide) (by decide)]; rfl
theorem rf_137_46 {G : q_Gr} (h : gok G) : G.1 137 46 = some 162 := by rw [h.2.1 137 46 (by decide) (by decide) (by decide)]; rfl
theorem rf_137_47 {G : q_Gr} (h : gok G) : G.1 137 47 = some 163 := by rw [h.2.1 137 47 (by decide) (by decide) (by decide)]; rfl
theorem rf_137_48 {G : q_Gr} (h : gok G) : G.1 137 48 = some 164 := by rw [h.2.1 137 48 (by decide) (by decide) (by decide)]; rfl
theorem rf_137_49 {G : q_Gr} (h : gok G) : G.1 137 49 = some 165 := by rw [h.2.1 137 49 (by decide) (by decide) (by decide)]; rfl
theorem rf_137_50 {G : q_Gr} (h : gok G) : G.1 137 50 = some 166 := by rw [h.2.1 137 50 (by decide) (by decide) (by decide)]; rfl
theorem rf_137_51 {G : q_Gr} (h : gok G) : G.1 137 51 = some 167 := by rw [h.2.1 137 51 (by decide) (by decide) (by decide)]; rfl
theorem rf_137_52 {G : q_Gr} (h : gok G) : G.1 137 52 = some 168 := by rw [h.2.1 137 52 (by decide) (by decide) (by decide)]; rfl
theorem rf_137_53 {G : q_Gr} (h : gok G) : G.1 137 53 = some 169 := by rw [h.2.1 137 53 (by decide) (by decide) (by decide)]; rfl
theorem rf_137_59 {G : q_Gr} (h : gok G) : G.1 137 59 = some 170 := by rw [h.2.1 137 59 (by decide) (by decide) (by decide)]; rfl
theorem rf_137_60 {G : q_Gr} (h : gok G) : G.1 137 60 = some 171 := by rw [h.2.1 137 60 (by decide) (by decide) (by decide)]; rfl
theorem rf_137_63 {G : q_Gr} (h : gok G) : G.1 137 63 = some 172 := by rw [h.2.1 137 63 (by decide) (by decide) (by decide)]; rfl
theorem rf_137_64 {G : q_Gr} (h : gok G) : G.1 137 64 = some 173 := by rw [h.2.1 137 64 (by decide) (by decide) (by decide)]; rfl
def SHC {G : q_Gr} (h : gok G) := (And.intro (sh_32 h) (And.intro (sh_33 h) (And.intro (sh_34 h) (And.intro (sh_35 h) (And.intro (sh_36 h) (And.intro (sh_37 h) (And.intro (sh_38 h) (And.intro (sh_39 h) (And.intro (sh_40 h) (And.intro (sh_41 h) (And.intro (sh_42 h) (And.intro (sh_43 h) (And.intro (sh_44 h) (And.intro (sh_45 h) (And.intro (sh_46 h) (And.intro (sh_47 h) (And.intro (sh_48 h) (And.intro (sh_49 h) (And.intro (sh_50 h) (And.intro (sh_51 h) (And.intro (sh_52 h) (And.intro (sh_53 h) (And.intro (sh_54 h) (And.intro (sh_55 h) (And.intro (sh_56 h) (And.intro (sh_57 h) (And.intro (sh_58 h) (And.intro (sh_59 h) (And.intro (sh_60 h) (And.intro (sh_61 h) (And.intro (sh_62 h) (And.intro (sh_63 h) (And.intro (sh_64 h) (And.intro (sh_65 h) (And.intro (sh_66 h) (And.intro (sh_67 h) (And.intro (sh_68 h) (And.intro (sh_69 h) (And.intro (sh_70 h) (And.intro (sh_71 h) (And.intro (sh_72 h) (And.intro (sh_73 h) (And.intro (sh_74 h) (And.intro (sh_75 h) (And.intro (sh_76 h) (And.intro (sh_77 h) (And.intro (sh_78 h) (And.intro (sh_79 h) (And.intro (sh_80 h) (And.intro (sh_81 h) (And.intro (sh_82 h) (And.intro (sh_83 h) (And.intro (sh_84 h) (And.intro (sh_85 h) (And.intro (sh_86 h) (And.intro (sh_87 h) (And.intro (sh_88 h) (And.intro (sh_89 h) (And.intro (sh_90 h) (And.intro (sh_91 h) (And.intro (sh_92 h) (And.intro (sh_93 h) (And.intro (rf_32_0 h) (And.intro (rf_32_1 h) (And.intro (rf_32_2 h) (And.intro (rf_32_4 h) (And.intro (rf_32_5 h) (And.intro (rf_32_6 h) (And.intro (rf_32_7 h) (And.intro (rf_32_8 h) (And.intro (rf_36_0 h) (And.intro (rf_36_2 h) (And.intro (rf_36_8 h) (And.intro (rf_40_0 h) (And.intro (rf_40_1 h) (And.intro (rf_40_2 h) (And.intro (rf_40_3 h) (And.intro (rf_40_4 h) (And.intro (rf_42_0 h) (And.intro (rf_44_0 h) (And.intro (rf_46_0 h) (And.intro (rf_46_1 h) (And.intro (rf_49_0 h) (And.intro (rf_49_1 h) (And.intro (rf_52_0 h) (And.intro (rf_52_3 h) (And.intro (rf_52_4 h) (And.intro (rf_52_5 h) (And.intro (rf_52_6 h) (And.intro (rf_52_7 h) (And.intro (rf_52_10 h) (And.intro (rf_52_11 h) (And.intro (rf_52_13 h) (And.intro (rf_53_0 h) (And.intro (rf_55_0 h) (And.intro (rf_55_1 h) (And.intro (rf_55_2 h) (And.intro (rf_55_3 h) (And.intro (rf_64_0 h) (And.intro (rf_64_1 h) (And.intro (rf_67_0 h) (And.intro (rf_67_1 h) (And.intro (rf_70_0 h) (And.intro (rf_72_0 h) (And.intro (rf_72_3 h) (And.intro (rf_72_4 h) (And.intro (rf_72_5 h) (And.intro (rf_72_6 h) (And.intro (rf_72_7 h) (And.intro (rf_72_10 h) (And.intro (rf_72_11 h) (And.intro (rf_72_13 h) (And.intro (rf_73_0 h) (And.intro (rf_75_0 h) (And.intro (rf_75_1 h) (And.intro (rf_75_2 h) (And.intro (rf_75_3 h) (And.intro (rf_84_0 h) (And.intro (rf_84_1 h) (And.intro (rf_87_0 h) (And.intro (rf_87_1 h) (And.intro (rf_90_0 h) (rf_92_0 h)))))))))))))))))))))))))))))))))))))))))))))))))))))))))))))))))))))))))))))))))))))))))))))))))))))))))))))))))))))))))))
def SHM {G : q_Gr} (h : gok G) := (And.intro (sh_137 h) (And.intro (sh_138 h) (And.intro (sh_139 h) (And.intro (sh_140 h) (And.intro (sh_141 h) (And.intro (sh_142 h) (And.intro (sh_143 h) (And.intro (sh_144 h) (And.intro (sh_145 h) (And.intro (sh_146 h) (And.intro (sh_147 h) (And.intro (sh_148 h) (And.intro (sh_149 h) (And.intro (sh_150 h) (And.intro (sh_151 h) (And.intro (sh_152 h) (And.intro (sh_153 h) (And.intro (sh_154 h) (And.intro (sh_155 h) (And.intro (sh_156 h) (And.intro (sh_157 h) (And.intro (sh_158 h) (And.intro (sh_159 h) (And.intro (sh_160 h) (And.intro (sh_161 h) (And.intro (sh_162 h) (And.intro (sh_163 h) (And.intro (sh_164 h) (And.intro (sh_165 h) (And.intro (sh_166 h) (And.intro (sh_167 h) (And.intro (sh_168 h) (And.intro (sh_169 h) (And.intro (sh_170 h) (And.intro (sh_171 h) (And.intro (sh_172 h) (And.intro (sh_173 h) (And.intro (rf_137_2 h) (And.intro (rf_137_3 h) (And.intro (rf_137_4 h) (And.intro (rf_137_5 h) (And.intro (rf_137_6 h) (And.intro (rf_137_7 h) (And.intro (rf_137_9 h) (And.intro (rf_137_10 h) (And.intro (rf_137_11 h) (And.intro (rf_137_12 h) (And.intro (rf_137_14 h) (And.intro (rf_137_16 h) (And.intro (rf_137_17 h) (And.intro (rf_137_18 h) (And.intro (rf_137_19 h) (And.intro (rf_137_20 h) (And.intro (rf_137_22 h) (And.intro (rf_137_33 h) (And.intro (rf_137_34 h) (And.intro (rf_137_35 h) (And.intro (rf_137_36 h) (And.intro (rf_137_38 h) (And.intro (rf_137_40 h) (And.intro (rf_137_45 h) (And.intro (rf_137_46 h) (And.intro (rf_137_47 h) (And.intro (rf_137_48 h) (And.intro (rf_137_49 h) (And.intro (rf_137_50 h) (And.intro (rf_137_51 h) (And.intro (rf_137_52 h) (And.intro (rf_137_53 h) (And.intro (rf_137_59 h) (And.intro (rf_137_60 h) (And.intro (rf_137_63 h) (rf_137_64 h)))))))))))))))))))))))))))))))))))))))))))))))))))))))))))))))))))))))))
theorem g_all8 {P : Nat → Prop} (h : P 0 ∧ P 1 ∧ P 2 ∧ P 3 ∧ P 4 ∧ P 5 ∧ P 6 ∧ P 7) (s : Nat) (hs : s < 8) : P s := by
  obtain ⟨h0, h1, h2, h3, h4, h5, h6, h7⟩ := h
  match s, hs with
  | 0, _ => exact h0
  | 1, _ => exact h1
  | 2, _ => exact h2
  | 3, _ => exact h3
  | 4, _ => exact h4
  | 5, _ => exact h5
  | 6, _ => exact h6
  | 7, _ => exact h7
  | n + 8, q => exact absurd q (by omega)
theorem g_all3 {P : Nat → Prop} (h : P 0 ∧ P 1 ∧ P 2) (s : Nat) (hs : s < 3) : P s := by
  obtain ⟨h0, h1, h2⟩ := h
  match s, hs with
  | 0, _ => exact h0
  | 1, _ => exact h1
  | 2, _ => exact h2
  | n + 3, q => exact absurd q (by omega)
def gSh (G : q_Gr) (q : Nat) : Prop := (G.2.1 q).1 = 7 ∧ G.1 q 0 = some (q + 1) ∧ (G.2.1 (q + 1)).1 = 20 ∧ (G.2.1 (q + 1)).2 = 600 ∧ 32 ≤ q
def gTree (G : q_Gr) (q : Nat) : Prop := (G.2.1 q).1 = 9 ∧ G.1 q 0 = some (q + 1) ∧ G.1 q 1 = some (q + 2) ∧ G.1 q 2 = some (q + 3) ∧ G.1 q 3 = some (q + 4) ∧ G.2.1 (q + 1) = (20, 32) ∧ G.2.1 (q + 2) = (20, 32) ∧ G.2.1 (q + 3) = (20, 32) ∧ G.2.1 (q + 4) = (20, 32) ∧ 32 ≤ q
def gTab (G : q_Gr) (q : Nat) : Prop := (G.2.1 q).1 = 8 ∧ G.1 q 0 = some (q + 1) ∧ G.1 q 1 = some (q + 4) ∧ gRow G (q + 1) ∧ gTree G (q + 4)
theorem g_sheet {G : q_Gr} (h : gok G) : ∀ s, s < 8 → G.1 33 s = some (94 + 2 * s) ∧ gSh G (94 + 2 * s) := by
  apply g_all8
  refine ⟨?_, ?_, ?_, ?_, ?_, ?_, ?_, ?_⟩
  · exact ⟨rf_33_0 h, by rw [sh_94 h], rf_94_0 h, by rw [sh_95 h], by rw [sh_95 h], by decide⟩
  · exact ⟨rf_33_1 h, by rw [sh_96 h], rf_96_0 h, by rw [sh_97 h], by rw [sh_97 h], by decide⟩
  · exact ⟨rf_33_2 h, by rw [sh_98 h], rf_98_0 h, by rw [sh_99 h], by rw [sh_99 h], by decide⟩
  · exact ⟨rf_33_3 h, by rw [sh_100 h], rf_100_0 h, by rw [sh_101 h], by rw [sh_101 h], by decide⟩
  · exact ⟨rf_33_4 h, by rw [sh_102 h], rf_102_0 h, by rw [sh_103 h], by rw [sh_103 h], by decide⟩
  · exact ⟨rf_33_5 h, by rw [sh_104 h], rf_104_0 h, by rw [sh_105 h], by rw [sh_105 h], by decide⟩
  · exact ⟨rf_33_6 h, by rw [sh_106 h], rf_106_0 h, by rw [sh_107 h], by rw [sh_107 h], by decide⟩
  · exact ⟨rf_33_7 h, by rw [sh_108 h], rf_108_0 h, by rw [sh_109 h], by rw [sh_109 h], by decide⟩
theorem g_table {G : q_Gr} (h : gok G) : ∀ s, s < 3 → G.1 34 s = some (110 + 9 * s) ∧ gTab G (110 + 9 * s) := by
  apply g_all3
  refine ⟨?_, ?_, ?_⟩
  · exact ⟨rf_34_0 h, by rw [sh_110 h], rf_110_0 h, rf_110_1 h, ⟨by rw [sh_111 h], rf_111_0 h, rf_111_1 h, by rw [sh_112 h], by rw [sh_112 h], by rw [sh_113 h], by rw [sh_113 h], by decide⟩, ⟨by rw [sh_114 h], rf_114_0 h, rf_114_1 h, rf_114_2 h, rf_114_3 h, sh_115 h, sh_116 h, sh_117 h, sh_118 h, by decide⟩⟩
  · exact ⟨rf_34_1 h, by rw [sh_119 h], rf_119_0 h, rf_119_1 h, ⟨by rw [sh_120 h], rf_120_0 h, rf_120_1 h, by rw [sh_121 h], by rw [sh_121 h], by rw [sh_122 h], by rw [sh_122 h], by decide⟩, ⟨by rw [sh_123 h], rf_123_0 h, rf_123_1 h, rf_123_2 h, rf_123_3 h, sh_124 h, sh_125 h, sh_126 h, sh_127 h, by decide⟩⟩
  · exact ⟨rf_34_2 h, by rw [sh_128 h], rf_128_0 h, rf_128_1 h, ⟨by rw [sh_129 h], rf_129_0 h, rf_129_1 h, by rw [sh_130 h], by rw [sh_130 h], by rw [sh_131 h], by rw [sh_131 h], by decide⟩, ⟨by rw [sh_132 h], rf_132_0 h, rf_132_1 h, rf_132_2 h, rf_132_3 h, sh_133 h, sh_134 h, sh_135 h, sh_136 h, by decide⟩⟩
