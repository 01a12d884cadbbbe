-- THE HEAP once all cells are made: which cell each reference holds; four rows of words and the word at hand may change
def s_hr0 : List (Nat × List (Option Nat)) := [(0, [some 1, none, some 3, some 10, some 17, some 22, some 27, some 32, some 37, some 43, some 85, some 122, some 127, some 128, some 129]), (1, [some 2]), (3, [none, none, some 4, some 5, some 6, some 7, some 8, some 9]), (10, [none, none, some 11, some 12, some 13, some 14, some 15, some 16]), (17, [some 3, some 18, some 19, some 20, some 21]), (22, [some 3, some 23, some 24, some 25, some 26]), (27, [some 28, some 29, some 30, some 31]), (32, [some 33, some 34, some 35, some 36]), (37, [some 38, some 39, some 40, some 41, some 42]), (43, [some 44]), (44, [some 45, some 50, some 55, some 60, some 65, some 70, some 75, some 80]), (45, [some 3, some 46, some 47, some 48, some 49]), (50, [some 3, some 51, some 52, some 53, some 54]), (55, [some 3, some 56, some 57, some 58, some 59]), (60, [some 3, some 61, some 62, some 63, some 64]), (65, [some 3, some 66, some 67, some 68, some 69]), (70, [some 3, some 71, some 72, some 73, some 74]), (75, [some 3, some 76, some 77, some 78, some 79]), (80, [some 3, some 81, some 82, some 83, some 84]), (85, [some 86, some 104]), (86, [some 87, some 94, some 99]), (87, [none, none, some 88, some 89, some 90, some 91, some 92, some 93]), (94, [some 87, some 95, some 96, some 97, some 98]), (99, [some 100, some 101, some 102, some 103]), (104, [some 105, some 112, some 117]), (105, [none, none, some 106, some 107, some 108, some 109, some 110, some 111]), (112, [some 105, some 113, some 114, some 115, some 116]), (117, [some 118, some 119, some 120, some 121]), (122, [some 123, none, some 124, none, none, some 125, some 126]), (130, [none, some 131, none, none, none, none, none, none, none, none, none, none, none, none, some 132, some 133, some 134, some 135, some 136, some 137, some 138, some 139, some 140, some 141, some 142, none, some 143, some 144, none, some 145, none, none, none, some 146, none, some 147, some 148, none, none, some 149, some 150, none, none, some 151])]
def s_hrf (w : Option Nat) (s1 s2 s3 s4 : Nat → Option Nat) : Nat → Nat → Option Nat := fun a k => match Nat.beq a 28 with
  | true => s1 k
  | false => (match Nat.beq a 33 with
    | true => s2 k
    | false => (match Nat.beq a 100 with
      | true => s3 k
      | false => (match Nat.beq a 118 with
        | true => s4 k
        | false => (match Nat.beq a 1 && Nat.beq k 9 with
          | true => w
          | false => (match s_look s_hr0 a with
            | some l => (match l[k]? with
              | some r => r
              | none => none)
            | none => none)))))
abbrev s_hp (hi : Nat → Nat → Int32) (hl : Nat → Nat → Int64) (w : Option Nat) (s1 s2 s3 s4 : Nat → Option Nat) : s_H := (153, 7386, false, hi, hl, s_hrf w s1 s2 s3 s4)
