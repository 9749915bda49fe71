/-! the cells behind the constructors: L the length of the script; b: told and draft have changed places -/
def SHL : List (Nat × Nat) := [(99, 0), (100, 0), (50, 0), (50, 0), (50, 0), (50, 0), (99, 0), (99, 0), (99, 0), (99, 0), (100, 204), (99, 0), (99, 0), (99, 0), (99, 0), (99, 0), (10, 0), (7, 0), (102, 3000), (3, 0), (6, 0), (100, 600), (100, 600), (101, 600), (8, 0), (9, 0), (101, 12), (100, 12), (101, 40), (100, 40), (100, 40), (100, 40), (100, 240), (101, 16), (100, 16), (100, 16), (100, 96), (100, 96), (100, 4), (100, 4), (9, 0), (101, 12), (100, 12), (101, 40), (100, 40), (100, 40), (100, 40), (100, 240), (101, 16), (100, 16), (100, 16), (100, 96), (100, 96), (100, 4), (100, 4), (0, 0), (101, 40), (2, 0), (100, 40), (100, 40), (101, 40), (103, 40), (100, 240), (100, 4), (101, 4), (100, 4), (100, 12), (5, 0), (100, 64), (100, 64), (1, 0), (100, 40), (100, 296), (100, 296), (100, 296), (100, 33), (100, 33), (4, 0), (100, 6), (100, 6), (11, 0), (102, 3000), (100, 2), (101, 24), (100, 24), (100, 2), (101, 80), (100, 80), (100, 80), (100, 480), (100, 2), (101, 32), (100, 32), (100, 32), (100, 192), (100, 192), (100, 2), (100, 8), (100, 8), (100, 40), (100, 40), (101, 40), (103, 40), (100, 240), (100, 12), (101, 4), (100, 4), (100, 6), (100, 6), (100, 65540), (101, 41000), (100, 6), (100, 6), (101, 300), (100, 300), (100, 300), (100, 300), (100, 300), (100, 300), (100, 40)]
def SH (L : Nat) (r : Nat) : Nat × Nat := if r = 1 then (100, L) else SHL.getD r (99, 0)
def shf (L : Nat) (l : List (Nat × Nat)) (r : Nat) : Nat × Nat := if r = 1 then (100, L) else l.getD r (99, 0)
def rff (al : List ((Nat × Nat) × Nat)) (r k : Nat) : Nat := match al.find? (fun e => e.1 == (r, k)) with
  | some e => e.2
  | none => 0
def AL : List ((Nat × Nat) × Nat) := [((80, 53), 119), ((80, 52), 118), ((80, 51), 117), ((80, 50), 116), ((80, 49), 115), ((80, 48), 114), ((80, 47), 113), ((80, 46), 112), ((80, 45), 111), ((80, 44), 110), ((80, 43), 109), ((80, 34), 108), ((80, 31), 107), ((80, 30), 106), ((80, 29), 105), ((80, 28), 104), ((80, 27), 103), ((80, 26), 102), ((80, 25), 101), ((80, 24), 100), ((80, 23), 99), ((80, 20), 98), ((80, 19), 97), ((80, 18), 96), ((80, 17), 95), ((80, 16), 94), ((80, 15), 93), ((80, 14), 92), ((80, 13), 91), ((80, 12), 90), ((80, 11), 89), ((80, 10), 88), ((80, 9), 87), ((80, 8), 86), ((80, 7), 85), ((80, 6), 84), ((80, 5), 83), ((80, 4), 82), ((80, 0), 81), ((16, 9), 79), ((16, 8), 77), ((77, 3), 78), ((16, 7), 70), ((70, 10), 76), ((70, 9), 75), ((70, 7), 74), ((70, 6), 73), ((70, 5), 72), ((70, 4), 71), ((16, 6), 57), ((57, 11), 67), ((67, 1), 69), ((67, 0), 68), ((57, 10), 66), ((57, 9), 65), ((57, 8), 64), ((57, 7), 63), ((57, 6), 62), ((57, 5), 61), ((57, 4), 60), ((57, 3), 59), ((57, 2), 58), ((16, 5), 55), ((55, 0), 56), ((40, 17), 54), ((40, 16), 53), ((40, 14), 52), ((40, 13), 51), ((40, 12), 50), ((40, 11), 49), ((40, 10), 48), ((40, 8), 47), ((40, 7), 46), ((40, 6), 45), ((40, 5), 44), ((40, 4), 43), ((40, 2), 42), ((40, 1), 41), ((25, 17), 39), ((25, 16), 38), ((25, 14), 37), ((25, 13), 36), ((25, 12), 35), ((25, 11), 34), ((25, 10), 33), ((25, 8), 32), ((25, 7), 31), ((25, 6), 30), ((25, 5), 29), ((25, 4), 28), ((25, 2), 27), ((25, 1), 26), ((16, 2), 24), ((24, 0), 19), ((16, 1), 19), ((19, 3), 23), ((19, 2), 22), ((19, 1), 21), ((19, 0), 20), ((16, 0), 17), ((17, 0), 18)]
def tO (b : Bool) : Nat := if b then 40 else 25
def tD (b : Bool) : Nat := if b then 25 else 40
def RF (b : Bool) (r k : Nat) : Nat := if r = 16 ∧ k = 3 then tO b else if r = 16 ∧ k = 4 then tD b else rff AL r k
theorem SH_1 {L : Nat} : SH L 1 = (100, L) := rfl
theorem SH_10 {L : Nat} : SH L 10 = (100, 204) := rfl
theorem SH_16 {L : Nat} : SH L 16 = (10, 0) := rfl
theorem SH_17 {L : Nat} : SH L 17 = (7, 0) := rfl
theorem SH_18 {L : Nat} : SH L 18 = (102, 3000) := rfl
theorem SH_19 {L : Nat} : SH L 19 = (3, 0) := rfl
theorem SH_20 {L : Nat} : SH L 20 = (6, 0) := rfl
theorem SH_21 {L : Nat} : SH L 21 = (100, 600) := rfl
theorem SH_22 {L : Nat} : SH L 22 = (100, 600) := rfl
theorem SH_23 {L : Nat} : SH L 23 = (101, 600) := rfl
theorem SH_24 {L : Nat} : SH L 24 = (8, 0) := rfl
theorem SH_25 {L : Nat} : SH L 25 = (9, 0) := rfl
theorem SH_26 {L : Nat} : SH L 26 = (101, 12) := rfl
theorem SH_27 {L : Nat} : SH L 27 = (100, 12) := rfl
theorem SH_28 {L : Nat} : SH L 28 = (101, 40) := rfl
theorem SH_29 {L : Nat} : SH L 29 = (100, 40) := rfl
theorem SH_30 {L : Nat} : SH L 30 = (100, 40) := rfl
theorem SH_31 {L : Nat} : SH L 31 = (100, 40) := rfl
theorem SH_32 {L : Nat} : SH L 32 = (100, 240) := rfl
theorem SH_33 {L : Nat} : SH L 33 = (101, 16) := rfl
theorem SH_34 {L : Nat} : SH L 34 = (100, 16) := rfl
theorem SH_35 {L : Nat} : SH L 35 = (100, 16) := rfl
theorem SH_36 {L : Nat} : SH L 36 = (100, 96) := rfl
theorem SH_37 {L : Nat} : SH L 37 = (100, 96) := rfl
theorem SH_38 {L : Nat} : SH L 38 = (100, 4) := rfl
theorem SH_39 {L : Nat} : SH L 39 = (100, 4) := rfl
theorem SH_40 {L : Nat} : SH L 40 = (9, 0) := rfl
theorem SH_41 {L : Nat} : SH L 41 = (101, 12) := rfl
theorem SH_42 {L : Nat} : SH L 42 = (100, 12) := rfl
theorem SH_43 {L : Nat} : SH L 43 = (101, 40) := rfl
theorem SH_44 {L : Nat} : SH L 44 = (100, 40) := rfl
theorem SH_45 {L : Nat} : SH L 45 = (100, 40) := rfl
theorem SH_46 {L : Nat} : SH L 46 = (100, 40) := rfl
theorem SH_47 {L : Nat} : SH L 47 = (100, 240) := rfl
theorem SH_48 {L : Nat} : SH L 48 = (101, 16) := rfl
theorem SH_49 {L : Nat} : SH L 49 = (100, 16) := rfl
theorem SH_50 {L : Nat} : SH L 50 = (100, 16) := rfl
theorem SH_51 {L : Nat} : SH L 51 = (100, 96) := rfl
theorem SH_52 {L : Nat} : SH L 52 = (100, 96) := rfl
theorem SH_53 {L : Nat} : SH L 53 = (100, 4) := rfl
theorem SH_54 {L : Nat} : SH L 54 = (100, 4) := rfl
theorem SH_55 {L : Nat} : SH L 55 = (0, 0) := rfl
theorem SH_56 {L : Nat} : SH L 56 = (101, 40) := rfl
theorem SH_57 {L : Nat} : SH L 57 = (2, 0) := rfl
theorem SH_58 {L : Nat} : SH L 58 = (100, 40) := rfl
theorem SH_59 {L : Nat} : SH L 59 = (100, 40) := rfl
theorem SH_60 {L : Nat} : SH L 60 = (101, 40) := rfl
theorem SH_61 {L : Nat} : SH L 61 = (103, 40) := rfl
theorem SH_62 {L : Nat} : SH L 62 = (100, 240) := rfl
theorem SH_63 {L : Nat} : SH L 63 = (100, 4) := rfl
theorem SH_64 {L : Nat} : SH L 64 = (101, 4) := rfl
theorem SH_65 {L : Nat} : SH L 65 = (100, 4) := rfl
theorem SH_66 {L : Nat} : SH L 66 = (100, 12) := rfl
theorem SH_67 {L : Nat} : SH L 67 = (5, 0) := rfl
theorem SH_68 {L : Nat} : SH L 68 = (100, 64) := rfl
theorem SH_69 {L : Nat} : SH L 69 = (100, 64) := rfl
theorem SH_70 {L : Nat} : SH L 70 = (1, 0) := rfl
theorem SH_71 {L : Nat} : SH L 71 = (100, 40) := rfl
theorem SH_72 {L : Nat} : SH L 72 = (100, 296) := rfl
theorem SH_73 {L : Nat} : SH L 73 = (100, 296) := rfl
theorem SH_74 {L : Nat} : SH L 74 = (100, 296) := rfl
theorem SH_75 {L : Nat} : SH L 75 = (100, 33) := rfl
theorem SH_76 {L : Nat} : SH L 76 = (100, 33) := rfl
theorem SH_77 {L : Nat} : SH L 77 = (4, 0) := rfl
theorem SH_78 {L : Nat} : SH L 78 = (100, 6) := rfl
theorem SH_79 {L : Nat} : SH L 79 = (100, 6) := rfl
theorem SH_80 {L : Nat} : SH L 80 = (11, 0) := rfl
theorem SH_81 {L : Nat} : SH L 81 = (102, 3000) := rfl
theorem SH_82 {L : Nat} : SH L 82 = (100, 2) := rfl
theorem SH_83 {L : Nat} : SH L 83 = (101, 24) := rfl
theorem SH_84 {L : Nat} : SH L 84 = (100, 24) := rfl
theorem SH_85 {L : Nat} : SH L 85 = (100, 2) := rfl
theorem SH_86 {L : Nat} : SH L 86 = (101, 80) := rfl
theorem SH_87 {L : Nat} : SH L 87 = (100, 80) := rfl
theorem SH_88 {L : Nat} : SH L 88 = (100, 80) := rfl
theorem SH_89 {L : Nat} : SH L 89 = (100, 480) := rfl
theorem SH_90 {L : Nat} : SH L 90 = (100, 2) := rfl
theorem SH_91 {L : Nat} : SH L 91 = (101, 32) := rfl
theorem SH_92 {L : Nat} : SH L 92 = (100, 32) := rfl
theorem SH_93 {L : Nat} : SH L 93 = (100, 32) := rfl
theorem SH_94 {L : Nat} : SH L 94 = (100, 192) := rfl
theorem SH_95 {L : Nat} : SH L 95 = (100, 192) := rfl
theorem SH_96 {L : Nat} : SH L 96 = (100, 2) := rfl
theorem SH_97 {L : Nat} : SH L 97 = (100, 8) := rfl
theorem SH_98 {L : Nat} : SH L 98 = (100, 8) := rfl
theorem SH_99 {L : Nat} : SH L 99 = (100, 40) := rfl
theorem SH_100 {L : Nat} : SH L 100 = (100, 40) := rfl
theorem SH_101 {L : Nat} : SH L 101 = (101, 40) := rfl
theorem SH_102 {L : Nat} : SH L 102 = (103, 40) := rfl
theorem SH_103 {L : Nat} : SH L 103 = (100, 240) := rfl
theorem SH_104 {L : Nat} : SH L 104 = (100, 12) := rfl
theorem SH_105 {L : Nat} : SH L 105 = (101, 4) := rfl
theorem SH_106 {L : Nat} : SH L 106 = (100, 4) := rfl
theorem SH_107 {L : Nat} : SH L 107 = (100, 6) := rfl
theorem SH_108 {L : Nat} : SH L 108 = (100, 6) := rfl
theorem SH_109 {L : Nat} : SH L 109 = (100, 65540) := rfl
theorem SH_110 {L : Nat} : SH L 110 = (101, 41000) := rfl
theorem SH_111 {L : Nat} : SH L 111 = (100, 6) := rfl
theorem SH_112 {L : Nat} : SH L 112 = (100, 6) := rfl
theorem SH_113 {L : Nat} : SH L 113 = (101, 300) := rfl
theorem SH_114 {L : Nat} : SH L 114 = (100, 300) := rfl
theorem SH_115 {L : Nat} : SH L 115 = (100, 300) := rfl
theorem SH_116 {L : Nat} : SH L 116 = (100, 300) := rfl
theorem SH_117 {L : Nat} : SH L 117 = (100, 300) := rfl
theorem SH_118 {L : Nat} : SH L 118 = (100, 300) := rfl
theorem SH_119 {L : Nat} : SH L 119 = (100, 40) := rfl
theorem RF_16_0 {b : Bool} : RF b 16 0 = 17 := rfl
theorem RF_16_1 {b : Bool} : RF b 16 1 = 19 := rfl
theorem RF_16_2 {b : Bool} : RF b 16 2 = 24 := rfl
theorem RF_16_5 {b : Bool} : RF b 16 5 = 55 := rfl
theorem RF_16_6 {b : Bool} : RF b 16 6 = 57 := rfl
theorem RF_16_7 {b : Bool} : RF b 16 7 = 70 := rfl
theorem RF_16_8 {b : Bool} : RF b 16 8 = 77 := rfl
theorem RF_16_9 {b : Bool} : RF b 16 9 = 79 := rfl
theorem RF_17_0 {b : Bool} : RF b 17 0 = 18 := rfl
theorem RF_19_0 {b : Bool} : RF b 19 0 = 20 := rfl
theorem RF_19_1 {b : Bool} : RF b 19 1 = 21 := rfl
theorem RF_19_2 {b : Bool} : RF b 19 2 = 22 := rfl
theorem RF_19_3 {b : Bool} : RF b 19 3 = 23 := rfl
theorem RF_24_0 {b : Bool} : RF b 24 0 = 19 := rfl
theorem RF_25_1 {b : Bool} : RF b 25 1 = 26 := rfl
theorem RF_25_2 {b : Bool} : RF b 25 2 = 27 := rfl
theorem RF_25_4 {b : Bool} : RF b 25 4 = 28 := rfl
theorem RF_25_5 {b : Bool} : RF b 25 5 = 29 := rfl
theorem RF_25_6 {b : Bool} : RF b 25 6 = 30 := rfl
theorem RF_25_7 {b : Bool} : RF b 25 7 = 31 := rfl
theorem RF_25_8 {b : Bool} : RF b 25 8 = 32 := rfl
theorem RF_25_10 {b : Bool} : RF b 25 10 = 33 := rfl
theorem RF_25_11 {b : Bool} : RF b 25 11 = 34 := rfl
theorem RF_25_12 {b : Bool} : RF b 25 12 = 35 := rfl
theorem RF_25_13 {b : Bool} : RF b 25 13 = 36 := rfl
theorem RF_25_14 {b : Bool} : RF b 25 14 = 37 := rfl
theorem RF_25_16 {b : Bool} : RF b 25 16 = 38 := rfl
theorem RF_25_17 {b : Bool} : RF b 25 17 = 39 := rfl
theorem RF_40_1 {b : Bool} : RF b 40 1 = 41 := rfl
theorem RF_40_2 {b : Bool} : RF b 40 2 = 42 := rfl
theorem RF_40_4 {b : Bool} : RF b 40 4 = 43 := rfl
theorem RF_40_5 {b : Bool} : RF b 40 5 = 44 := rfl
theorem RF_40_6 {b : Bool} : RF b 40 6 = 45 := rfl
theorem RF_40_7 {b : Bool} : RF b 40 7 = 46 := rfl
theorem RF_40_8 {b : Bool} : RF b 40 8 = 47 := rfl
theorem RF_40_10 {b : Bool} : RF b 40 10 = 48 := rfl
theorem RF_40_11 {b : Bool} : RF b 40 11 = 49 := rfl
theorem RF_40_12 {b : Bool} : RF b 40 12 = 50 := rfl
theorem RF_40_13 {b : Bool} : RF b 40 13 = 51 := rfl
theorem RF_40_14 {b : Bool} : RF b 40 14 = 52 := rfl
theorem RF_40_16 {b : Bool} : RF b 40 16 = 53 := rfl
theorem RF_40_17 {b : Bool} : RF b 40 17 = 54 := rfl
theorem RF_55_0 {b : Bool} : RF b 55 0 = 56 := rfl
theorem RF_57_2 {b : Bool} : RF b 57 2 = 58 := rfl
theorem RF_57_3 {b : Bool} : RF b 57 3 = 59 := rfl
theorem RF_57_4 {b : Bool} : RF b 57 4 = 60 := rfl
theorem RF_57_5 {b : Bool} : RF b 57 5 = 61 := rfl
theorem RF_57_6 {b : Bool} : RF b 57 6 = 62 := rfl
theorem RF_57_7 {b : Bool} : RF b 57 7 = 63 := rfl
theorem RF_57_8 {b : Bool} : RF b 57 8 = 64 := rfl
theorem RF_57_9 {b : Bool} : RF b 57 9 = 65 := rfl
theorem RF_57_10 {b : Bool} : RF b 57 10 = 66 := rfl
theorem RF_57_11 {b : Bool} : RF b 57 11 = 67 := rfl
theorem RF_67_0 {b : Bool} : RF b 67 0 = 68 := rfl
theorem RF_67_1 {b : Bool} : RF b 67 1 = 69 := rfl
theorem RF_70_4 {b : Bool} : RF b 70 4 = 71 := rfl
theorem RF_70_5 {b : Bool} : RF b 70 5 = 72 := rfl
theorem RF_70_6 {b : Bool} : RF b 70 6 = 73 := rfl
theorem RF_70_7 {b : Bool} : RF b 70 7 = 74 := rfl
theorem RF_70_9 {b : Bool} : RF b 70 9 = 75 := rfl
theorem RF_70_10 {b : Bool} : RF b 70 10 = 76 := rfl
theorem RF_77_3 {b : Bool} : RF b 77 3 = 78 := rfl
theorem RF_80_0 {b : Bool} : RF b 80 0 = 81 := rfl
theorem RF_80_4 {b : Bool} : RF b 80 4 = 82 := rfl
theorem RF_80_5 {b : Bool} : RF b 80 5 = 83 := rfl
theorem RF_80_6 {b : Bool} : RF b 80 6 = 84 := rfl
theorem RF_80_7 {b : Bool} : RF b 80 7 = 85 := rfl
theorem RF_80_8 {b : Bool} : RF b 80 8 = 86 := rfl
theorem RF_80_9 {b : Bool} : RF b 80 9 = 87 := rfl
theorem RF_80_10 {b : Bool} : RF b 80 10 = 88 := rfl
theorem RF_80_11 {b : Bool} : RF b 80 11 = 89 := rfl
theorem RF_80_12 {b : Bool} : RF b 80 12 = 90 := rfl
theorem RF_80_13 {b : Bool} : RF b 80 13 = 91 := rfl
theorem RF_80_14 {b : Bool} : RF b 80 14 = 92 := rfl
theorem RF_80_15 {b : Bool} : RF b 80 15 = 93 := rfl
theorem RF_80_16 {b : Bool} : RF b 80 16 = 94 := rfl
theorem RF_80_17 {b : Bool} : RF b 80 17 = 95 := rfl
theorem RF_80_18 {b : Bool} : RF b 80 18 = 96 := rfl
theorem RF_80_19 {b : Bool} : RF b 80 19 = 97 := rfl
theorem RF_80_20 {b : Bool} : RF b 80 20 = 98 := rfl
theorem RF_80_23 {b : Bool} : RF b 80 23 = 99 := rfl
theorem RF_80_24 {b : Bool} : RF b 80 24 = 100 := rfl
theorem RF_80_25 {b : Bool} : RF b 80 25 = 101 := rfl
theorem RF_80_26 {b : Bool} : RF b 80 26 = 102 := rfl
theorem RF_80_27 {b : Bool} : RF b 80 27 = 103 := rfl
theorem RF_80_28 {b : Bool} : RF b 80 28 = 104 := rfl
theorem RF_80_29 {b : Bool} : RF b 80 29 = 105 := rfl
theorem RF_80_30 {b : Bool} : RF b 80 30 = 106 := rfl
theorem RF_80_31 {b : Bool} : RF b 80 31 = 107 := rfl
theorem RF_80_34 {b : Bool} : RF b 80 34 = 108 := rfl
theorem RF_80_43 {b : Bool} : RF b 80 43 = 109 := rfl
theorem RF_80_44 {b : Bool} : RF b 80 44 = 110 := rfl
theorem RF_80_45 {b : Bool} : RF b 80 45 = 111 := rfl
theorem RF_80_46 {b : Bool} : RF b 80 46 = 112 := rfl
theorem RF_80_47 {b : Bool} : RF b 80 47 = 113 := rfl
theorem RF_80_48 {b : Bool} : RF b 80 48 = 114 := rfl
theorem RF_80_49 {b : Bool} : RF b 80 49 = 115 := rfl
theorem RF_80_50 {b : Bool} : RF b 80 50 = 116 := rfl
theorem RF_80_51 {b : Bool} : RF b 80 51 = 117 := rfl
theorem RF_80_52 {b : Bool} : RF b 80 52 = 118 := rfl
theorem RF_80_53 {b : Bool} : RF b 80 53 = 119 := rfl
theorem RF_told {b : Bool} : RF b 16 3 = tO b := rfl
theorem RF_draft {b : Bool} : RF b 16 4 = tD b := rfl
abbrev isT (t : Nat) : Prop := t = 25 ∨ t = 40
theorem tO_T (b : Bool) : isT (tO b) := by cases b; exact Or.inl rfl; exact Or.inr rfl
theorem tD_T (b : Bool) : isT (tD b) := by cases b; exact Or.inr rfl; exact Or.inl rfl
theorem SHt_0 {L t : Nat} (ht : isT t) : SH L t = (9, 0) := by rcases ht with rfl | rfl <;> rfl
theorem SHt_1 {L t : Nat} (ht : isT t) : SH L (t + 1) = (101, 12) := by rcases ht with rfl | rfl <;> rfl
theorem RFt_1 {b : Bool} {t : Nat} (ht : isT t) : RF b t 1 = t + 1 := by rcases ht with rfl | rfl <;> rfl
theorem SHt_2 {L t : Nat} (ht : isT t) : SH L (t + 2) = (100, 12) := by rcases ht with rfl | rfl <;> rfl
theorem RFt_2 {b : Bool} {t : Nat} (ht : isT t) : RF b t 2 = t + 2 := by rcases ht with rfl | rfl <;> rfl
theorem SHt_3 {L t : Nat} (ht : isT t) : SH L (t + 3) = (101, 40) := by rcases ht with rfl | rfl <;> rfl
theorem RFt_4 {b : Bool} {t : Nat} (ht : isT t) : RF b t 4 = t + 3 := by rcases ht with rfl | rfl <;> rfl
theorem SHt_4 {L t : Nat} (ht : isT t) : SH L (t + 4) = (100, 40) := by rcases ht with rfl | rfl <;> rfl
theorem RFt_5 {b : Bool} {t : Nat} (ht : isT t) : RF b t 5 = t + 4 := by rcases ht with rfl | rfl <;> rfl
theorem SHt_5 {L t : Nat} (ht : isT t) : SH L (t + 5) = (100, 40) := by rcases ht with rfl | rfl <;> rfl
theorem RFt_6 {b : Bool} {t : Nat} (ht : isT t) : RF b t 6 = t + 5 := by rcases ht with rfl | rfl <;> rfl
theorem SHt_6 {L t : Nat} (ht : isT t) : SH L (t + 6) = (100, 40) := by rcases ht with rfl | rfl <;> rfl
theorem RFt_7 {b : Bool} {t : Nat} (ht : isT t) : RF b t 7 = t + 6 := by rcases ht with rfl | rfl <;> rfl
theorem SHt_7 {L t : Nat} (ht : isT t) : SH L (t + 7) = (100, 240) := by rcases ht with rfl | rfl <;> rfl
theorem RFt_8 {b : Bool} {t : Nat} (ht : isT t) : RF b t 8 = t + 7 := by rcases ht with rfl | rfl <;> rfl
theorem SHt_8 {L t : Nat} (ht : isT t) : SH L (t + 8) = (101, 16) := by rcases ht with rfl | rfl <;> rfl
theorem RFt_10 {b : Bool} {t : Nat} (ht : isT t) : RF b t 10 = t + 8 := by rcases ht with rfl | rfl <;> rfl
theorem SHt_9 {L t : Nat} (ht : isT t) : SH L (t + 9) = (100, 16) := by rcases ht with rfl | rfl <;> rfl
theorem RFt_11 {b : Bool} {t : Nat} (ht : isT t) : RF b t 11 = t + 9 := by rcases ht with rfl | rfl <;> rfl
theorem SHt_10 {L t : Nat} (ht : isT t) : SH L (t + 10) = (100, 16) := by rcases ht with rfl | rfl <;> rfl
theorem RFt_12 {b : Bool} {t : Nat} (ht : isT t) : RF b t 12 = t + 10 := by rcases ht with rfl | rfl <;> rfl
theorem SHt_11 {L t : Nat} (ht : isT t) : SH L (t + 11) = (100, 96) := by rcases ht with rfl | rfl <;> rfl
theorem RFt_13 {b : Bool} {t : Nat} (ht : isT t) : RF b t 13 = t + 11 := by rcases ht with rfl | rfl <;> rfl
theorem SHt_12 {L t : Nat} (ht : isT t) : SH L (t + 12) = (100, 96) := by rcases ht with rfl | rfl <;> rfl
theorem RFt_14 {b : Bool} {t : Nat} (ht : isT t) : RF b t 14 = t + 12 := by rcases ht with rfl | rfl <;> rfl
theorem SHt_13 {L t : Nat} (ht : isT t) : SH L (t + 13) = (100, 4) := by rcases ht with rfl | rfl <;> rfl
theorem RFt_16 {b : Bool} {t : Nat} (ht : isT t) : RF b t 16 = t + 13 := by rcases ht with rfl | rfl <;> rfl
theorem SHt_14 {L t : Nat} (ht : isT t) : SH L (t + 14) = (100, 4) := by rcases ht with rfl | rfl <;> rfl
theorem RFt_17 {b : Bool} {t : Nat} (ht : isT t) : RF b t 17 = t + 14 := by rcases ht with rfl | rfl <;> rfl
theorem isT_16 {t : Nat} (ht : isT t) : 16 ≤ t := by rcases ht with rfl | rfl <;> decide
def mup (M : Nat → Int → Int) (a : Nat) (j x : Int) : Nat → Int → Int := fun b i => if b = a ∧ i = j then x else M b i
theorem mput_t {n : Nat} {sh : Nat → Nat × Nat} {R : Nat → Nat → Nat} {M : Nat → Int → Int} {a : Nat} {j x : Int} : mput (n, sh, R, M) a j x = (n, sh, R, mup M a j x) := rfl
def mupr (R : Nat → Nat → Nat) (a k x : Nat) : Nat → Nat → Nat := fun b i => if b = a ∧ i = k then x else R b i
theorem mputr_t {n : Nat} {sh : Nat → Nat × Nat} {R : Nat → Nat → Nat} {M : Nat → Int → Int} {a k x : Nat} : mputr (n, sh, R, M) a k x = (n, sh, mupr R a k x, M) := rfl
theorem mup_ap {M : Nat → Int → Int} {a b : Nat} {j x i : Int} : mup M a j x b i = if b = a ∧ i = j then x else M b i := rfl
theorem mup_s {M : Nat → Int → Int} {a : Nat} {j x : Int} : mup M a j x a j = x := if_pos ⟨rfl, rfl⟩
theorem mup_n {M : Nat → Int → Int} {a b : Nat} {j x : Int} (h : b ≠ a) : mup M a j x b = M b := by
  funext i
  exact if_neg (fun q => h q.1)
theorem mup_i {M : Nat → Int → Int} {a : Nat} {j x i : Int} (h : i ≠ j) : mup M a j x a i = M a i := if_neg (fun q => h q.2)
theorem RF_swap {b : Bool} : mupr (mupr (RF b) 16 3 (tD b)) 16 4 (tO b) = RF (!b) := by
  funext r k
  show (if r = 16 ∧ k = 4 then tO b else if r = 16 ∧ k = 3 then tD b else RF b r k) = RF (!b) r k
  unfold RF
  have h1 : tO (!b) = tD b := by cases b <;> rfl
  have h2 : tD (!b) = tO b := by cases b <;> rfl
  rw [h1, h2]
  by_cases c1 : r = 16 ∧ k = 4
  · rw [if_pos c1, if_neg (fun q => by have := c1.2; have := q.2; omega), if_pos c1]
  · rw [if_neg c1]
    by_cases c2 : r = 16 ∧ k = 3
    · rw [if_pos c2, if_pos c2]
    · rw [if_neg c2, if_neg c2, if_neg c2, if_neg c1, if_neg c1]
/-- the cells of a run behind the constructors -/
abbrev mS (L : Nat) (b : Bool) (M : Nat → Int → Int) : mM := (104, SH L, RF b, M)
def NXL : List Int := [-1, -1, -1, -1, -1, -1, 1, 4, 9, 15, 0, -1, 2, -1, -1, -1, -1, -1, -1, -1, -1, -1, -1, -1, -1, 3, -1, -1, -1, -1, -1, -1, -1, -1, -1, -1, -1, -1, -1, 0, -1, -1, -1, -1, -1, -1, -1, -1, 5, -1, -1, -1, -1, -1, -1, -1, -1, -1, -1, -1, -1, 6, -1, -1, -1, -1, -1, -1, -1, -1, -1, -1, -1, -1, 7, 0, -1, -1, -1, -1, -1, -1, -1, -1, 8, -1, -1, -1, -1, -1, -1, -1, -1, -1, -1, -1, -1, -1, -1, 0, 7, -1, -1, -1, -1, -1, -1, -1, 10, -1, -1, -1, -1, -1, -1, -1, -1, -1, -1, -1, -1, -1, -1, -1, -1, 11, -1, -1, -1, -1, -1, -1, 12, -1, -1, -1, -1, -1, -1, -1, -1, -1, -1, -1, -1, -1, -1, 0, 13, -1, -1, -1, -1, -1, -1, -1, 14, -1, -1, -1, -1, -1, -1, -1, -1, -1, -1, -1, -1, 12, -1, -1, -1, -1, -1, -1, -1, -1, -1, -1, -1, 16, -1, -1, -1, -1, -1, -1, -1, -1, -1, -1, -1, 3, -1, -1, -1, -1, -1, -1, -1, -1, -1, -1]
def NXT (j : Int) : Int := NXL.getD j.toNat 0
theorem NXL_in : ∀ x ∈ NXL, inI x := by decide +kernel
theorem NXT_in (j : Int) : inI (NXT j) := by
  unfold NXT
  rw [List.getD_eq_getElem?_getD]
  cases h : NXL[j.toNat]? with
  | none => decide
  | some x => exact NXL_in x (List.mem_of_getElem? h)
/-- the cells at the law's start -/
def SZ (L : Nat) (r : Nat) : Nat × Nat := if r = 1 then (100, L) else if r = 10 then (100, 204) else if 2 ≤ r ∧ r < 6 then (50, 0) else (99, 0)
abbrev mZ (L : Nat) (X : Int → Int) : mM := (0, SZ L, fun _ _ => 0, fun r j => if r = 1 then X j else if r = 10 then NXT j else 0)
