/-! the cells of the class and of the reference, numbered; references between them -/
abbrev am_cl : List (Nat × Nat × Nat × Nat) := [
  (1, 10, 10, 0), -- 0 DoorsForThree
  (1, 0, 4, 0), -- 1 DoorsForThree$Calendar
  (4, 10, 3, 1), -- 2 DoorsForThree$Calendar.numbers
  (2, 12, 0, 0), -- 3 DoorsForThree$Calendar.numbers[0]
  (2, 12, 0, 0), -- 4 DoorsForThree$Calendar.numbers[1]
  (2, 12, 0, 0), -- 5 DoorsForThree$Calendar.numbers[2]
  (2, 12, 0, 0), -- 6 DoorsForThree$Calendar.numbers[3]
  (2, 12, 0, 0), -- 7 DoorsForThree$Calendar.numbers[4]
  (2, 12, 0, 0), -- 8 DoorsForThree$Calendar.numbers[5]
  (2, 12, 0, 0), -- 9 DoorsForThree$Calendar.numbers[6]
  (2, 12, 0, 0), -- 10 DoorsForThree$Calendar.numbers[7]
  (2, 12, 0, 0), -- 11 DoorsForThree$Calendar.numbers[8]
  (2, 12, 0, 0), -- 12 DoorsForThree$Calendar.numbers[9]
  (1, 1, 3, 0), -- 13 DoorsForThree$Changes
  (2, 160, 0, 0), -- 14 DoorsForThree$Changes.kept
  (1, 5, 10, 0), -- 15 DoorsForThree$Law
  (2, 120, 0, 0), -- 16 DoorsForThree$Law.tape
  (2, 121, 0, 0), -- 17 DoorsForThree$Law.draft
  (2, 121, 0, 0), -- 18 DoorsForThree$Law.steps
  (2, 121, 0, 0), -- 19 DoorsForThree$Law.stack
  (1, 9, 3, 0), -- 20 DoorsForThree$Worths
  (2, 6, 0, 0), -- 21 DoorsForThree$Worths.named
  (1, 4, 13, 0), -- 22 DoorsForThree$Givings
  (2, 12, 0, 0), -- 23 DoorsForThree$Givings.byDay
  (2, 5, 0, 0), -- 24 DoorsForThree$Givings.byAge
  (4, 5, 26, 1), -- 25 DoorsForThree$Givings.eaten
  (2, 12, 0, 0), -- 26 DoorsForThree$Givings.eaten[0]
  (2, 12, 0, 0), -- 27 DoorsForThree$Givings.eaten[1]
  (2, 12, 0, 0), -- 28 DoorsForThree$Givings.eaten[2]
  (2, 12, 0, 0), -- 29 DoorsForThree$Givings.eaten[3]
  (2, 12, 0, 0), -- 30 DoorsForThree$Givings.eaten[4]
  (4, 5, 32, 1), -- 31 DoorsForThree$Givings.given
  (2, 12, 0, 0), -- 32 DoorsForThree$Givings.given[0]
  (2, 12, 0, 0), -- 33 DoorsForThree$Givings.given[1]
  (2, 12, 0, 0), -- 34 DoorsForThree$Givings.given[2]
  (2, 12, 0, 0), -- 35 DoorsForThree$Givings.given[3]
  (2, 12, 0, 0), -- 36 DoorsForThree$Givings.given[4]
  (4, 5, 38, 1), -- 37 DoorsForThree$Givings.sums
  (2, 5, 0, 0), -- 38 DoorsForThree$Givings.sums[0]
  (2, 5, 0, 0), -- 39 DoorsForThree$Givings.sums[1]
  (2, 5, 0, 0), -- 40 DoorsForThree$Givings.sums[2]
  (2, 5, 0, 0), -- 41 DoorsForThree$Givings.sums[3]
  (2, 5, 0, 0), -- 42 DoorsForThree$Givings.sums[4]
  (2, 5, 0, 0), -- 43 DoorsForThree$Givings.offered
  (2, 12, 0, 0), -- 44 DoorsForThree$Givings.tried
  (2, 5, 0, 0), -- 45 DoorsForThree$Givings.triedSums
  (2, 12, 0, 0), -- 46 DoorsForThree$Givings.mine
  (1, 3, 10, 0), -- 47 DoorsForThree$Fairest
  (4, 3, 49, 1), -- 48 DoorsForThree$Fairest.eaten
  (2, 8, 0, 0), -- 49 DoorsForThree$Fairest.eaten[0]
  (2, 8, 0, 0), -- 50 DoorsForThree$Fairest.eaten[1]
  (2, 8, 0, 0), -- 51 DoorsForThree$Fairest.eaten[2]
  (2, 8, 0, 0), -- 52 DoorsForThree$Fairest.whose
  (2, 8, 0, 0), -- 53 DoorsForThree$Fairest.fairest
  (4, 3, 55, 1), -- 54 DoorsForThree$Fairest.held
  (2, 3, 0, 0), -- 55 DoorsForThree$Fairest.held[0]
  (2, 3, 0, 0), -- 56 DoorsForThree$Fairest.held[1]
  (2, 3, 0, 0), -- 57 DoorsForThree$Fairest.held[2]
  (1, 8, 2, 0), -- 58 DoorsForThree$Signs
  (1, 2, 12, 0), -- 59 DoorsForThree$Deeds
  (2, 12, 0, 0), -- 60 DoorsForThree$Deeds.openers
  (2, 12, 0, 0), -- 61 DoorsForThree$Deeds.imageOpeners
  (1, 6, 4, 0), -- 62 DoorsForThree$Pictures
  (2, 50, 0, 0), -- 63 DoorsForThree$Pictures.kinds
  (2, 24, 0, 0), -- 64 DoorsForThree$Pictures.trace
  (4, 6, 66, 2), -- 65 DoorsForThree.shelves
  (1, 7, 5, 0), -- 66 Shelf 0
  (3, 60, 0, 0), -- 67 Shelf 0.cells
  (1, 7, 5, 0), -- 68 Shelf 1
  (3, 60, 0, 0), -- 69 Shelf 1.cells
  (1, 7, 5, 0), -- 70 Shelf 2
  (3, 60, 0, 0), -- 71 Shelf 2.cells
  (1, 7, 5, 0), -- 72 Shelf 3
  (3, 60, 0, 0), -- 73 Shelf 3.cells
  (1, 7, 5, 0), -- 74 Shelf 4
  (3, 60, 0, 0), -- 75 Shelf 4.cells
  (1, 7, 5, 0), -- 76 Shelf 5
  (3, 60, 0, 0), -- 77 Shelf 5.cells
  (10, 37, 0, 0), -- 78 b
  (0, 0, 0, 0), -- 79 -
  (0, 0, 0, 0), -- 80 -
  (0, 0, 0, 0), -- 81 -
  (0, 0, 0, 0), -- 82 -
  (0, 0, 0, 0), -- 83 -
  (0, 0, 0, 0), -- 84 -
  (0, 0, 0, 0), -- 85 -
  (0, 0, 0, 0), -- 86 -
  (0, 0, 0, 0), -- 87 -
  (0, 0, 0, 0), -- 88 -
  (0, 0, 0, 0), -- 89 -
  (0, 0, 0, 0), -- 90 -
  (0, 0, 0, 0), -- 91 -
  (0, 0, 0, 0), -- 92 -
  (0, 0, 0, 0), -- 93 -
  (0, 0, 0, 0), -- 94 -
  (0, 0, 0, 0), -- 95 -
  (0, 0, 0, 0), -- 96 -
  (0, 0, 0, 0), -- 97 -
  (0, 0, 0, 0), -- 98 -
  (0, 0, 0, 0), -- 99 -
  (0, 0, 0, 0), -- 100 -
  (0, 0, 0, 0), -- 101 -
  (0, 0, 0, 0), -- 102 -
  (0, 0, 0, 0), -- 103 -
  (0, 0, 0, 0), -- 104 -
  (0, 0, 0, 0), -- 105 -
  (0, 0, 0, 0), -- 106 -
  (0, 0, 0, 0), -- 107 -
  (0, 0, 0, 0), -- 108 -
  (0, 0, 0, 0), -- 109 -
  (0, 0, 0, 0), -- 110 -
  (0, 0, 0, 0), -- 111 -
  (0, 0, 0, 0), -- 112 -
  (0, 0, 0, 0), -- 113 -
  (5, 10, 0, 0), -- 114 static LEAST
  (5, 10, 0, 0), -- 115 static MOST
  (5, 8, 0, 0), -- 116 static ABOVE
  (6, 0, 0, 0), -- 117 script
  (7, 1, 128, 0), -- 118 text
  (7, 3, 129, 0), -- 119 text
  (7, 1, 130, 0), -- 120 text
  (7, 3, 131, 0), -- 121 text
  (7, 2, 132, 0), -- 122 text
  (7, 1, 133, 0), -- 123 text
  (7, 3, 134, 0), -- 124 text
  (7, 1, 135, 0), -- 125 text
  (7, 6, 136, 0), -- 126 text
  (7, 1, 137, 0), -- 127 text
  (8, 1, 0, 0), -- 128 text
  (8, 3, 0, 0), -- 129 text
  (8, 1, 0, 0), -- 130 text
  (8, 3, 0, 0), -- 131 text
  (8, 2, 0, 0), -- 132 text
  (8, 1, 0, 0), -- 133 text
  (8, 3, 0, 0), -- 134 text
  (8, 1, 0, 0), -- 135 text
  (8, 6, 0, 0), -- 136 text
  (8, 1, 0, 0), -- 137 text
  (7, 0, 139, 0), -- 138 text
  (9, 0, 0, 0) -- 139 bytes of t
  ]
abbrev am_rl : List (List Nat) := [
  [1, 13, 15, 20, 22, 47, 58, 59, 62, 65],
  [2],
  [],
  [],
  [],
  [],
  [],
  [],
  [],
  [],
  [],
  [],
  [],
  [14],
  [],
  [16, 0, 0, 17, 0, 18, 0, 0, 19],
  [],
  [],
  [],
  [],
  [1, 15, 21],
  [],
  [1, 20, 0, 23, 24, 25, 31, 37, 43, 44, 45, 46],
  [],
  [],
  [],
  [],
  [],
  [],
  [],
  [],
  [],
  [],
  [],
  [],
  [],
  [],
  [],
  [],
  [],
  [],
  [],
  [],
  [],
  [],
  [],
  [],
  [1, 22, 0, 48, 52, 53, 54],
  [],
  [],
  [],
  [],
  [],
  [],
  [],
  [],
  [],
  [],
  [1, 22],
  [1, 60, 0, 0, 0, 0, 0, 61],
  [],
  [],
  [63, 0, 64],
  [],
  [],
  [],
  [0, 0, 0, 0, 67],
  [],
  [0, 0, 0, 0, 69],
  [],
  [0, 0, 0, 0, 71],
  [],
  [0, 0, 0, 0, 73],
  [],
  [0, 0, 0, 0, 75],
  [],
  [0, 0, 0, 0, 77],
  [],
  [],
  [],
  [],
  [],
  [],
  [],
  [],
  [],
  [],
  [],
  [],
  [],
  [],
  [],
  [],
  [],
  [],
  [],
  [],
  [],
  [],
  [],
  [],
  [],
  [],
  [],
  [],
  [],
  [],
  [],
  [],
  [],
  [],
  [],
  [],
  [],
  [],
  [],
  [],
  [],
  [128],
  [129],
  [130],
  [131],
  [132],
  [133],
  [134],
  [135],
  [136],
  [137],
  [],
  [],
  [],
  [],
  [],
  [],
  [],
  [],
  [],
  [],
  [139],
  []
  ]
abbrev am_txl : List (List Int32) := [[38], [40, 33, 45], [41], [42, 47, 37], [43, 45], [59], [60, 61, 62], [63], [115, 119, 100, 97, 110, 107], [124]]
/-- the class of each method, by its number among the classes (100: String) -/
abbrev am_mkl : List Nat := [0, 0, 0, 0, 0, 0, 0, 0, 0, 0, 0, 0, 1, 1, 100, 2, 2, 2, 2, 2, 2, 2, 3, 3, 3, 3, 3, 3, 3, 3, 4, 4, 4, 4, 4, 4, 4, 4, 4, 4, 4, 4, 4, 4, 4, 4, 4, 4, 4, 4, 4, 4, 4, 4, 4, 4, 4, 4, 4, 4, 4, 4, 4, 4, 4, 4, 5, 5, 5, 5, 5, 5, 5, 5, 5, 5, 5, 5, 5, 5, 5, 5, 5, 6, 100, 6, 100, 100, 100, 100, 100, 100, 100, 100, 100, 100, 100, 100, 7, 7, 7, 7, 100, 7, 7, 7, 100, 8, 8, 8, 8, 8, 8, 8, 8, 9, 9, 9, 10, 100, 10, 10, 10, 10, 10, 10, 10, 10, 10, 10, 10, 10, 10, 10, 10, 10, 10, 10, 10, 10, 10, 10, 10, 10, 10, 10, 10, 10, 10, 10, 10, 10, 100, 10, 100, 100, 100, 10, 10, 100, 100, 100, 10, 10, 10, 10, 10, 100, 100, 100, 100, 100, 100, 100, 100, 100, 100, 100, 100, 100, 100, 100, 100, 100, 100, 100, 100, 100, 100, 100, 100, 100, 100, 100, 100, 100, 100, 100, 100, 100, 100, 100, 100, 100, 100, 100, 100, 100, 100, 100, 100, 100, 100, 100, 100, 100, 100, 100, 100, 100, 100, 100, 100, 100, 100, 100, 100, 100, 100, 100, 100, 100, 100, 100, 100, 100, 100, 100, 100, 100, 100, 100, 100, 100, 100, 100, 100, 100, 100, 100, 100, 100, 100, 100, 100, 100, 100, 100, 100, 100, 100, 100, 100, 100, 100, 100, 100, 100, 100, 100, 100, 100, 100, 100, 100, 100, 100, 100, 100, 100, 100, 100, 100, 100, 100, 100, 100, 100, 100, 100, 100, 100]
/-- the string constants of the class Law: index, text, cell -/
abbrev am_strs : List (Nat × String × Nat) := [(85, "swdank", 126), (93, "(!-", 119), (95, ")", 120), (75, "|", 127), (77, "&", 118), (79, "<=>", 124), (81, "+-", 122), (83, "*/%", 121), (61, "?", 125), (51, ";", 123)]
