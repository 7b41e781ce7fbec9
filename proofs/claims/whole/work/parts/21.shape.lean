/-! ===== the shape behind both constructors; the methods by number ===== -/
def yTab : List (List (Option ((Nat × List Nat) ⊕ (Nat × Nat)))) := [[none, none, none, none, none, none, none, none, none, none, none, none, none, none, none, none],
  [some (.inl (11, [19, 20, 135, 249, 252, 253, 263, 265, 266, 0, 0])), some (.inl (1, [20, 134, 0, 0])), some (.inl (0, [21, 24, 116, 117, 118, 0, 119, 120, 0, 0, 121, 124, 126, 132, 133, 0])), some (.inl (2, [0, 0, 0, 0, 0, 0, 22, 23, 0])), some (.inr (0, 8)), some (.inr (0, 25)), some (.inl (8, [25, 0, 0])), some (.inr (3, 30)), some (.inl (2, [0, 0, 0, 0, 0, 0, 27, 28, 0])), some (.inr (0, 8)), some (.inr (0, 25)), some (.inl (2, [0, 0, 0, 0, 0, 0, 30, 31, 0])), some (.inr (0, 8)), some (.inr (0, 25)), some (.inl (2, [0, 0, 0, 0, 0, 0, 33, 34, 0])), some (.inr (0, 8))],
  [some (.inr (0, 25)), some (.inl (2, [0, 0, 0, 0, 0, 0, 36, 37, 0])), some (.inr (0, 8)), some (.inr (0, 25)), some (.inl (2, [0, 0, 0, 0, 0, 0, 39, 40, 0])), some (.inr (0, 8)), some (.inr (0, 25)), some (.inl (2, [0, 0, 0, 0, 0, 0, 42, 43, 0])), some (.inr (0, 8)), some (.inr (0, 25)), some (.inl (2, [0, 0, 0, 0, 0, 0, 45, 46, 0])), some (.inr (0, 8)), some (.inr (0, 25)), some (.inl (2, [0, 0, 0, 0, 0, 0, 48, 49, 0])), some (.inr (0, 8)), some (.inr (0, 25))],
  [some (.inl (2, [0, 0, 0, 0, 0, 0, 51, 52, 0])), some (.inr (0, 8)), some (.inr (0, 25)), some (.inl (2, [0, 0, 0, 0, 0, 0, 54, 55, 0])), some (.inr (0, 8)), some (.inr (0, 25)), some (.inl (2, [0, 0, 0, 0, 0, 0, 57, 58, 0])), some (.inr (0, 8)), some (.inr (0, 25)), some (.inl (2, [0, 0, 0, 0, 0, 0, 60, 61, 0])), some (.inr (0, 8)), some (.inr (0, 25)), some (.inl (2, [0, 0, 0, 0, 0, 0, 63, 64, 0])), some (.inr (0, 8)), some (.inr (0, 25)), some (.inl (2, [0, 0, 0, 0, 0, 0, 66, 67, 0]))],
  [some (.inr (0, 8)), some (.inr (0, 25)), some (.inl (2, [0, 0, 0, 0, 0, 0, 69, 70, 0])), some (.inr (0, 8)), some (.inr (0, 25)), some (.inl (2, [0, 0, 0, 0, 0, 0, 72, 73, 0])), some (.inr (0, 8)), some (.inr (0, 25)), some (.inl (2, [0, 0, 0, 0, 0, 0, 75, 76, 0])), some (.inr (0, 8)), some (.inr (0, 25)), some (.inl (2, [0, 0, 0, 0, 0, 0, 78, 79, 0])), some (.inr (0, 8)), some (.inr (0, 25)), some (.inl (2, [0, 0, 0, 0, 0, 0, 81, 82, 0])), some (.inr (0, 8))],
  [some (.inr (0, 25)), some (.inl (2, [0, 0, 0, 0, 0, 0, 84, 85, 0])), some (.inr (0, 8)), some (.inr (0, 25)), some (.inl (2, [0, 0, 0, 0, 0, 0, 87, 88, 0])), some (.inr (0, 8)), some (.inr (0, 25)), some (.inl (2, [0, 0, 0, 0, 0, 0, 90, 91, 0])), some (.inr (0, 8)), some (.inr (0, 25)), some (.inl (2, [0, 0, 0, 0, 0, 0, 93, 94, 0])), some (.inr (0, 8)), some (.inr (0, 25)), some (.inl (2, [0, 0, 0, 0, 0, 0, 96, 97, 0])), some (.inr (0, 8)), some (.inr (0, 25))],
  [some (.inl (2, [0, 0, 0, 0, 0, 0, 99, 100, 0])), some (.inr (0, 8)), some (.inr (0, 25)), some (.inl (2, [0, 0, 0, 0, 0, 0, 102, 103, 0])), some (.inr (0, 8)), some (.inr (0, 25)), some (.inl (2, [0, 0, 0, 0, 0, 0, 105, 106, 0])), some (.inr (0, 8)), some (.inr (0, 25)), some (.inl (2, [0, 0, 0, 0, 0, 0, 108, 109, 0])), some (.inr (0, 8)), some (.inr (0, 25)), some (.inl (2, [0, 0, 0, 0, 0, 0, 111, 112, 0])), some (.inr (0, 8)), some (.inr (0, 25)), some (.inl (2, [0, 0, 0, 0, 0, 0, 114, 115, 0]))],
  [some (.inr (0, 8)), some (.inr (0, 25)), some (.inr (0, 8)), some (.inr (0, 8)), some (.inr (0, 8)), some (.inr (0, 9)), some (.inr (4, 4)), some (.inl (3, [122, 123, 0])), some (.inr (0, 12)), some (.inr (2, 12)), some (.inl (6, [125])), some (.inr (0, 9)), some (.inl (4, [127, 128, 129, 130, 131])), some (.inr (0, 5)), some (.inr (0, 5)), some (.inr (0, 5))],
  [some (.inr (0, 5)), some (.inr (0, 5)), some (.inr (0, 8)), some (.inr (0, 8)), some (.inr (0, 301)), some (.inl (0, [136, 139, 231, 232, 233, 0, 234, 235, 0, 0, 236, 239, 241, 247, 248, 0])), some (.inl (2, [0, 0, 0, 0, 0, 0, 137, 138, 0])), some (.inr (0, 8)), some (.inr (0, 25)), some (.inl (8, [140, 0, 0])), some (.inr (3, 30)), some (.inl (2, [0, 0, 0, 0, 0, 0, 142, 143, 0])), some (.inr (0, 8)), some (.inr (0, 25)), some (.inl (2, [0, 0, 0, 0, 0, 0, 145, 146, 0])), some (.inr (0, 8))],
  [some (.inr (0, 25)), some (.inl (2, [0, 0, 0, 0, 0, 0, 148, 149, 0])), some (.inr (0, 8)), some (.inr (0, 25)), some (.inl (2, [0, 0, 0, 0, 0, 0, 151, 152, 0])), some (.inr (0, 8)), some (.inr (0, 25)), some (.inl (2, [0, 0, 0, 0, 0, 0, 154, 155, 0])), some (.inr (0, 8)), some (.inr (0, 25)), some (.inl (2, [0, 0, 0, 0, 0, 0, 157, 158, 0])), some (.inr (0, 8)), some (.inr (0, 25)), some (.inl (2, [0, 0, 0, 0, 0, 0, 160, 161, 0])), some (.inr (0, 8)), some (.inr (0, 25))],
  [some (.inl (2, [0, 0, 0, 0, 0, 0, 163, 164, 0])), some (.inr (0, 8)), some (.inr (0, 25)), some (.inl (2, [0, 0, 0, 0, 0, 0, 166, 167, 0])), some (.inr (0, 8)), some (.inr (0, 25)), some (.inl (2, [0, 0, 0, 0, 0, 0, 169, 170, 0])), some (.inr (0, 8)), some (.inr (0, 25)), some (.inl (2, [0, 0, 0, 0, 0, 0, 172, 173, 0])), some (.inr (0, 8)), some (.inr (0, 25)), some (.inl (2, [0, 0, 0, 0, 0, 0, 175, 176, 0])), some (.inr (0, 8)), some (.inr (0, 25)), some (.inl (2, [0, 0, 0, 0, 0, 0, 178, 179, 0]))],
  [some (.inr (0, 8)), some (.inr (0, 25)), some (.inl (2, [0, 0, 0, 0, 0, 0, 181, 182, 0])), some (.inr (0, 8)), some (.inr (0, 25)), some (.inl (2, [0, 0, 0, 0, 0, 0, 184, 185, 0])), some (.inr (0, 8)), some (.inr (0, 25)), some (.inl (2, [0, 0, 0, 0, 0, 0, 187, 188, 0])), some (.inr (0, 8)), some (.inr (0, 25)), some (.inl (2, [0, 0, 0, 0, 0, 0, 190, 191, 0])), some (.inr (0, 8)), some (.inr (0, 25)), some (.inl (2, [0, 0, 0, 0, 0, 0, 193, 194, 0])), some (.inr (0, 8))],
  [some (.inr (0, 25)), some (.inl (2, [0, 0, 0, 0, 0, 0, 196, 197, 0])), some (.inr (0, 8)), some (.inr (0, 25)), some (.inl (2, [0, 0, 0, 0, 0, 0, 199, 200, 0])), some (.inr (0, 8)), some (.inr (0, 25)), some (.inl (2, [0, 0, 0, 0, 0, 0, 202, 203, 0])), some (.inr (0, 8)), some (.inr (0, 25)), some (.inl (2, [0, 0, 0, 0, 0, 0, 205, 206, 0])), some (.inr (0, 8)), some (.inr (0, 25)), some (.inl (2, [0, 0, 0, 0, 0, 0, 208, 209, 0])), some (.inr (0, 8)), some (.inr (0, 25))],
  [some (.inl (2, [0, 0, 0, 0, 0, 0, 211, 212, 0])), some (.inr (0, 8)), some (.inr (0, 25)), some (.inl (2, [0, 0, 0, 0, 0, 0, 214, 215, 0])), some (.inr (0, 8)), some (.inr (0, 25)), some (.inl (2, [0, 0, 0, 0, 0, 0, 217, 218, 0])), some (.inr (0, 8)), some (.inr (0, 25)), some (.inl (2, [0, 0, 0, 0, 0, 0, 220, 221, 0])), some (.inr (0, 8)), some (.inr (0, 25)), some (.inl (2, [0, 0, 0, 0, 0, 0, 223, 224, 0])), some (.inr (0, 8)), some (.inr (0, 25)), some (.inl (2, [0, 0, 0, 0, 0, 0, 226, 227, 0]))],
  [some (.inr (0, 8)), some (.inr (0, 25)), some (.inl (2, [0, 0, 0, 0, 0, 0, 229, 230, 0])), some (.inr (0, 8)), some (.inr (0, 25)), some (.inr (0, 8)), some (.inr (0, 8)), some (.inr (0, 8)), some (.inr (0, 9)), some (.inr (4, 4)), some (.inl (3, [237, 238, 0])), some (.inr (0, 12)), some (.inr (2, 12)), some (.inl (6, [240])), some (.inr (0, 9)), some (.inl (4, [242, 243, 244, 245, 246]))],
  [some (.inr (0, 5)), some (.inr (0, 5)), some (.inr (0, 5)), some (.inr (0, 5)), some (.inr (0, 5)), some (.inr (0, 8)), some (.inr (0, 8)), some (.inl (2, [0, 0, 0, 0, 0, 0, 250, 251, 0])), some (.inr (0, 8)), some (.inr (0, 25)), some (.inl (5, [253, 0, 0, 0, 0, 258, 259, 0, 0, 0, 0, 0, 260, 261, 262, 0])), some (.inl (9, [254, 0, 255, 256, 257, 0])), some (.inr (0, 300)), some (.inr (0, 301)), some (.inr (0, 301)), some (.inr (0, 301))],
  [some (.inr (0, 300)), some (.inr (0, 300)), some (.inr (0, 24)), some (.inr (0, 24)), some (.inr (0, 24)), some (.inl (7, [264, 0, 1])), some (.inr (1, 13)), some (.inr (0, 8)), some (.inr (0, 101)), some (.inl (12, [268, 269, 270, 271, 0, 0, 0, 0, 0, 0, 0, 1, 0, 0, 0, 272, 0, 0, 0, 0, 273, 274, 275, 0, 0, 276, 277, 278, 279, 280, 281, 282])), some (.inr (0, 1338)), some (.inr (0, 1338)), some (.inr (0, 2724)), some (.inr (0, 300)), some (.inr (0, 160)), some (.inr (0, 9))],
  [some (.inr (1, 330)), some (.inr (2, 330)), some (.inr (0, 21)), some (.inr (1, 13)), some (.inr (0, 5)), some (.inr (0, 5)), some (.inr (0, 5)), some (.inr (0, 104)), some (.inr (2, 3321))]]
def yK0 (i : Nat) : Option ((Nat × List Nat) ⊕ (Nat × Nat)) := match yTab[i / 16]? with
  | none => none
  | some l => match l[i % 16]? with
    | none => none
    | some e => e
/-- with the texts that were read since -/
def yKx (T : yK) : yK := fun i => bif Nat.blt i 281 then yK0 i else T i
abbrev jX0_init : Nat := 0
theorem pX0_init : xP 0 = some mX0_init := rfl
abbrev jX0_copy : Nat := 1
theorem pX0_copy : xP 1 = some mX0_copy := rfl
abbrev jX0_addBird : Nat := 2
theorem pX0_addBird : xP 2 = some mX0_addBird := rfl
abbrev jX0_addText : Nat := 3
theorem pX0_addText : xP 3 = some mX0_addText := rfl
abbrev jX0_addTold : Nat := 4
theorem pX0_addTold : xP 4 = some mX0_addTold := rfl
abbrev jX0_hasBird : Nat := 5
theorem pX0_hasBird : xP 5 = some mX0_hasBird := rfl
abbrev jX0_hasText : Nat := 6
theorem pX0_hasText : xP 6 = some mX0_hasText := rfl
abbrev jX0_textAt : Nat := 7
theorem pX0_textAt : xP 7 = some mX0_textAt := rfl
abbrev jX0_rulingText : Nat := 8
theorem pX0_rulingText : xP 8 = some mX0_rulingText := rfl
abbrev jX0_isDue : Nat := 9
theorem pX0_isDue : xP 9 = some mX0_isDue := rfl
abbrev jX0_dueOn : Nat := 10
theorem pX0_dueOn : xP 10 = some mX0_dueOn := rfl
abbrev jX0_canThin : Nat := 11
theorem pX0_canThin : xP 11 = some mX0_canThin := rfl
abbrev jX0_canCall : Nat := 12
theorem pX0_canCall : xP 12 = some mX0_canCall := rfl
abbrev jX0_canGrant : Nat := 13
theorem pX0_canGrant : xP 13 = some mX0_canGrant := rfl
abbrev jX0_canPass : Nat := 14
theorem pX0_canPass : xP 14 = some mX0_canPass := rfl
abbrev jX1_init : Nat := 15
theorem pX1_init : xP 15 = some mX1_init := rfl
abbrev jX1_chanceOf : Nat := 16
theorem pX1_chanceOf : xP 16 = some mX1_chanceOf := rfl
abbrev jX1_broughtBy : Nat := 17
theorem pX1_broughtBy : xP 17 = some mX1_broughtBy := rfl
abbrev jX1_run : Nat := 18
theorem pX1_run : xP 18 = some mX1_run := rfl
abbrev jX1_isOfOne : Nat := 19
theorem pX1_isOfOne : xP 19 = some mX1_isOfOne := rfl
abbrev jX1_isOfTwo : Nat := 20
theorem pX1_isOfTwo : xP 20 = some mX1_isOfTwo := rfl
abbrev jX1_named : Nat := 21
theorem pX1_named : xP 21 = some mX1_named := rfl
abbrev jX1_ofOne : Nat := 22
theorem pX1_ofOne : xP 22 = some mX1_ofOne := rfl
abbrev jX1_ofTwo : Nat := 23
theorem pX1_ofTwo : xP 23 = some mX1_ofTwo := rfl
abbrev jX1_isSo : Nat := 24
theorem pX1_isSo : xP 24 = some mX1_isSo := rfl
abbrev jX2_init : Nat := 25
theorem pX2_init : xP 25 = some mX2_init := rfl
abbrev jX2_copy : Nat := 26
theorem pX2_copy : xP 26 = some mX2_copy := rfl
abbrev jX2_isGone : Nat := 27
theorem pX2_isGone : xP 27 = some mX2_isGone := rfl
abbrev jX2_markGone : Nat := 28
theorem pX2_markGone : xP 28 = some mX2_markGone := rfl
abbrev jX2_markBack : Nat := 29
theorem pX2_markBack : xP 29 = some mX2_markBack := rfl
abbrev jX2_noteCame : Nat := 30
theorem pX2_noteCame : xP 30 = some mX2_noteCame := rfl
abbrev jX2_draw : Nat := 31
theorem pX2_draw : xP 31 = some mX2_draw := rfl
abbrev jX2_write : Nat := 32
theorem pX2_write : xP 32 = some mX2_write := rfl
abbrev jX2_onPage : Nat := 33
theorem pX2_onPage : xP 33 = some mX2_onPage := rfl
abbrev jX2_countWritten : Nat := 34
theorem pX2_countWritten : xP 34 = some mX2_countWritten := rfl
abbrev jX3_init : Nat := 35
theorem pX3_init : xP 35 = some mX3_init := rfl
abbrev jX3_copy : Nat := 36
theorem pX3_copy : xP 36 = some mX3_copy := rfl
abbrev jX3_add : Nat := 37
theorem pX3_add : xP 37 = some mX3_add := rfl
abbrev jX3_fits : Nat := 38
theorem pX3_fits : xP 38 = some mX3_fits := rfl
abbrev jX3_countFitting : Nat := 39
theorem pX3_countFitting : xP 39 = some mX3_countFitting := rfl
abbrev jX3_leastPeriod : Nat := 40
theorem pX3_leastPeriod : xP 40 = some mX3_leastPeriod := rfl
abbrev jX3_leastPhase : Nat := 41
theorem pX3_leastPhase : xP 41 = some mX3_leastPhase := rfl
abbrev jX3_nextDay : Nat := 42
theorem pX3_nextDay : xP 42 = some mX3_nextDay := rfl
abbrev jX4_init : Nat := 43
theorem pX4_init : xP 43 = some mX4_init := rfl
abbrev jX4_copy : Nat := 44
theorem pX4_copy : xP 44 = some mX4_copy := rfl
abbrev jX4_allVotes : Nat := 45
theorem pX4_allVotes : xP 45 = some mX4_allVotes := rfl
abbrev jX4_seatsByShares : Nat := 46
theorem pX4_seatsByShares : xP 46 = some mX4_seatsByShares := rfl
abbrev jX4_seatsByRests : Nat := 47
theorem pX4_seatsByRests : xP 47 = some mX4_seatsByRests := rfl
abbrev jX4_differing : Nat := 48
theorem pX4_differing : xP 48 = some mX4_differing := rfl
abbrev jX4_causeAt : Nat := 49
theorem pX4_causeAt : xP 49 = some mX4_causeAt := rfl
abbrev jX4_placeOf : Nat := 50
theorem pX4_placeOf : xP 50 = some mX4_placeOf := rfl
abbrev jX4_isAhead : Nat := 51
theorem pX4_isAhead : xP 51 = some mX4_isAhead := rfl
abbrev jX4_aheadOfAll : Nat := 52
theorem pX4_aheadOfAll : xP 52 = some mX4_aheadOfAll := rfl
abbrev jX4_pointsFor : Nat := 53
theorem pX4_pointsFor : xP 53 = some mX4_pointsFor := rfl
abbrev jX4_lastLeft : Nat := 54
theorem pX4_lastLeft : xP 54 = some mX4_lastLeft := rfl
abbrev jX4_weakest : Nat := 55
theorem pX4_weakest : xP 55 = some mX4_weakest := rfl
abbrev jX4_firstVotes : Nat := 56
theorem pX4_firstVotes : xP 56 = some mX4_firstVotes := rfl
abbrev jX5_init : Nat := 57
theorem pX5_init : xP 57 = some mX5_init := rfl
abbrev jX5_readTape : Nat := 58
theorem pX5_readTape : xP 58 = some mX5_readTape := rfl
abbrev jX5_kind : Nat := 59
theorem pX5_kind : xP 59 = some mX5_kind := rfl
abbrev jX5_fail : Nat := 60
theorem pX5_fail : xP 60 = some mX5_fail := rfl
abbrev jX5_expect : Nat := 61
theorem pX5_expect : xP 61 = some mX5_expect := rfl
abbrev jX5_readNumber : Nat := 62
theorem pX5_readNumber : xP 62 = some mX5_readNumber := rfl
abbrev jX5_readClause : Nat := 63
theorem pX5_readClause : xP 63 = some mX5_readClause := rfl
abbrev jX5_isVerb : Nat := 64
theorem pX5_isVerb : xP 64 = some mX5_isVerb := rfl
abbrev jX5_readNumbers : Nat := 65
theorem pX5_readNumbers : xP 65 = some mX5_readNumbers := rfl
abbrev jX5_readLaw : Nat := 66
theorem pX5_readLaw : xP 66 = some mX5_readLaw := rfl
abbrev jX5_emit : Nat := 67
theorem pX5_emit : xP 67 = some mX5_emit := rfl
abbrev jX5_readSum : Nat := 68
theorem pX5_readSum : xP 68 = some mX5_readSum := rfl
abbrev jX5_readProduct : Nat := 69
theorem pX5_readProduct : xP 69 = some mX5_readProduct := rfl
abbrev jX5_readOne : Nat := 70
theorem pX5_readOne : xP 70 = some mX5_readOne := rfl
abbrev jX5_opensOne : Nat := 71
theorem pX5_opensOne : xP 71 = some mX5_opensOne := rfl
abbrev jX5_readName : Nat := 72
theorem pX5_readName : xP 72 = some mX5_readName := rfl
abbrev jX5_readOpened : Nat := 73
theorem pX5_readOpened : xP 73 = some mX5_readOpened := rfl
abbrev jX5_readChoice : Nat := 74
theorem pX5_readChoice : xP 74 = some mX5_readChoice := rfl
abbrev jX5_aim : Nat := 75
theorem pX5_aim : xP 75 = some mX5_aim := rfl
abbrev jX5_readEither : Nat := 76
theorem pX5_readEither : xP 76 = some mX5_readEither := rfl
abbrev jX5_readBoth : Nat := 77
theorem pX5_readBoth : xP 77 = some mX5_readBoth := rfl
abbrev jX5_readAsk : Nat := 78
theorem pX5_readAsk : xP 78 = some mX5_readAsk := rfl
abbrev jX5_readCompared : Nat := 79
theorem pX5_readCompared : xP 79 = some mX5_readCompared := rfl
abbrev jX6_init : Nat := 80
theorem pX6_init : xP 80 = some mX6_init := rfl
abbrev jX6_copy : Nat := 81
theorem pX6_copy : xP 81 = some mX6_copy := rfl
abbrev jX6_selfFollowing : Nat := 82
theorem pX6_selfFollowing : xP 82 = some mX6_selfFollowing := rfl
abbrev jX6_sizeAt : Nat := 83
theorem pX6_sizeAt : xP 83 = some mX6_sizeAt := rfl
abbrev jX6_smallest : Nat := 84
theorem pX6_smallest : xP 84 = some mX6_smallest := rfl
abbrev jX6_stepsToRing : Nat := 85
theorem pX6_stepsToRing : xP 85 = some mX6_stepsToRing := rfl
abbrev jX6_behind : Nat := 86
theorem pX6_behind : xP 86 = some mX6_behind := rfl
abbrev jX6_walked : Nat := 87
theorem pX6_walked : xP 87 = some mX6_walked := rfl
abbrev jX7_init : Nat := 88
theorem pX7_init : xP 88 = some mX7_init := rfl
abbrev jX7_begin : Nat := 89
theorem pX7_begin : xP 89 = some mX7_begin := rfl
abbrev jX7_addOne : Nat := 90
theorem pX7_addOne : xP 90 = some mX7_addOne := rfl
abbrev jX7_ofTrials : Nat := 91
theorem pX7_ofTrials : xP 91 = some mX7_ofTrials := rfl
abbrev jX7_just : Nat := 92
theorem pX7_just : xP 92 = some mX7_just := rfl
abbrev jX7_orMore : Nat := 93
theorem pX7_orMore : xP 93 = some mX7_orMore := rfl
abbrev jX8_init : Nat := 94
theorem pX8_init : xP 94 = some mX8_init := rfl
abbrev jX8_copy : Nat := 95
theorem pX8_copy : xP 95 = some mX8_copy := rfl
abbrev jX8_keep : Nat := 96
theorem pX8_keep : xP 96 = some mX8_keep := rfl
abbrev jX8_takeBack : Nat := 97
theorem pX8_takeBack : xP 97 = some mX8_takeBack := rfl
abbrev jX9_init : Nat := 98
theorem pX9_init : xP 98 = some mX9_init := rfl
abbrev jX9_add : Nat := 99
theorem pX9_add : xP 99 = some mX9_add := rfl
abbrev jX9_scan : Nat := 100
theorem pX9_scan : xP 100 = some mX9_scan := rfl
abbrev jX9_put : Nat := 101
theorem pX9_put : xP 101 = some mX9_put := rfl
abbrev jX9_scanToken : Nat := 102
theorem pX9_scanToken : xP 102 = some mX9_scanToken := rfl
abbrev jX9_scanWord : Nat := 103
theorem pX9_scanWord : xP 103 = some mX9_scanWord := rfl
abbrev jX9_scanNumber : Nat := 104
theorem pX9_scanNumber : xP 104 = some mX9_scanNumber := rfl
abbrev jX9_scanSign : Nat := 105
theorem pX9_scanSign : xP 105 = some mX9_scanSign := rfl
abbrev jX9_kindOfWord : Nat := 106
theorem pX9_kindOfWord : xP 106 = some mX9_kindOfWord := rfl
abbrev jX9_isLetter : Nat := 107
theorem pX9_isLetter : xP 107 = some mX9_isLetter := rfl
abbrev jX9_isDigit : Nat := 108
theorem pX9_isDigit : xP 108 = some mX9_isDigit := rfl
abbrev jX10_init : Nat := 109
theorem pX10_init : xP 109 = some mX10_init := rfl
abbrev jX11_init : Nat := 110
theorem pX11_init : xP 110 = some mX11_init := rfl
abbrev jX11_bird : Nat := 111
theorem pX11_bird : xP 111 = some mX11_bird := rfl
abbrev jX11_rhyme : Nat := 112
theorem pX11_rhyme : xP 112 = some mX11_rhyme := rfl
abbrev jX11_feed : Nat := 113
theorem pX11_feed : xP 113 = some mX11_feed := rfl
abbrev jX11_end : Nat := 114
theorem pX11_end : xP 114 = some mX11_end := rfl
abbrev jX11_text : Nat := 115
theorem pX11_text : xP 115 = some mX11_text := rfl
abbrev jX11_fault : Nat := 116
theorem pX11_fault : xP 116 = some mX11_fault := rfl
abbrev jX11_by : Nat := 117
theorem pX11_by : xP 117 = some mX11_by := rfl
abbrev jX11_thin : Nat := 118
theorem pX11_thin : xP 118 = some mX11_thin := rfl
abbrev jX11_call : Nat := 119
theorem pX11_call : xP 119 = some mX11_call := rfl
abbrev jX11_grant : Nat := 120
theorem pX11_grant : xP 120 = some mX11_grant := rfl
abbrev jX11_day : Nat := 121
theorem pX11_day : xP 121 = some mX11_day := rfl
abbrev jX11_played : Nat := 122
theorem pX11_played : xP 122 = some mX11_played := rfl
abbrev jX11_years : Nat := 123
theorem pX11_years : xP 123 = some mX11_years := rfl
abbrev jX11_undo : Nat := 124
theorem pX11_undo : xP 124 = some mX11_undo := rfl
abbrev jX11_of : Nat := 125
theorem pX11_of : xP 125 = some mX11_of := rfl
abbrev jX11_is : Nat := 126
theorem pX11_is : xP 126 = some mX11_is := rfl
abbrev jX11_things : Nat := 127
theorem pX11_things : xP 127 = some mX11_things := rfl
abbrev jX11_brings : Nat := 128
theorem pX11_brings : xP 128 = some mX11_brings := rfl
abbrev jX11_book : Nat := 129
theorem pX11_book : xP 129 = some mX11_book := rfl
abbrev jX11_foretold : Nat := 130
theorem pX11_foretold : xP 130 = some mX11_foretold := rfl
abbrev jX11_likely : Nat := 131
theorem pX11_likely : xP 131 = some mX11_likely := rfl
abbrev jX11_mean : Nat := 132
theorem pX11_mean : xP 132 = some mX11_mean := rfl
abbrev jX11_best : Nat := 133
theorem pX11_best : xP 133 = some mX11_best := rfl
abbrev jX11_morning : Nat := 134
theorem pX11_morning : xP 134 = some mX11_morning := rfl
abbrev jX11_habits : Nat := 135
theorem pX11_habits : xP 135 = some mX11_habits := rfl
abbrev jX11_habit : Nat := 136
theorem pX11_habit : xP 136 = some mX11_habit := rfl
abbrev jX11_whom : Nat := 137
theorem pX11_whom : xP 137 = some mX11_whom := rfl
abbrev jX11_rota : Nat := 138
theorem pX11_rota : xP 138 = some mX11_rota := rfl
abbrev jX11_gather : Nat := 139
theorem pX11_gather : xP 139 = some mX11_gather := rfl
abbrev jX11_comes : Nat := 140
theorem pX11_comes : xP 140 = some mX11_comes := rfl
abbrev jX11_follows : Nat := 141
theorem pX11_follows : xP 141 = some mX11_follows := rfl
abbrev jX11_agree : Nat := 142
theorem pX11_agree : xP 142 = some mX11_agree := rfl
abbrev jX11_ring : Nat := 143
theorem pX11_ring : xP 143 = some mX11_ring := rfl
abbrev jX11_till : Nat := 144
theorem pX11_till : xP 144 = some mX11_till := rfl
abbrev jX11_after : Nat := 145
theorem pX11_after : xP 145 = some mX11_after := rfl
abbrev jX11_test : Nat := 146
theorem pX11_test : xP 146 = some mX11_test := rfl
abbrev jX11_bound : Nat := 147
theorem pX11_bound : xP 147 = some mX11_bound := rfl
abbrev jX11_sure : Nat := 148
theorem pX11_sure : xP 148 = some mX11_sure := rfl
abbrev jX11_votes : Nat := 149
theorem pX11_votes : xP 149 = some mX11_votes := rfl
abbrev jX11_seats : Nat := 150
theorem pX11_seats : xP 150 = some mX11_seats := rfl
abbrev jX11_unlike : Nat := 151
theorem pX11_unlike : xP 151 = some mX11_unlike := rfl
abbrev jX11_ranks : Nat := 152
theorem pX11_ranks : xP 152 = some mX11_ranks := rfl
abbrev jX11_beats : Nat := 153
theorem pX11_beats : xP 153 = some mX11_beats := rfl
abbrev jX11_winner : Nat := 154
theorem pX11_winner : xP 154 = some mX11_winner := rfl
abbrev jX11_points : Nat := 155
theorem pX11_points : xP 155 = some mX11_points := rfl
abbrev jX11_runoff : Nat := 156
theorem pX11_runoff : xP 156 = some mX11_runoff := rfl
abbrev jX11_digits : Nat := 157
theorem pX11_digits : xP 157 = some mX11_digits := rfl
abbrev jX11_digit : Nat := 158
theorem pX11_digit : xP 158 = some mX11_digit := rfl
abbrev jX11_depth : Nat := 159
theorem pX11_depth : xP 159 = some mX11_depth := rfl
abbrev jX11_rests : Nat := 160
theorem pX11_rests : xP 160 = some mX11_rests := rfl
abbrev jX11_game : Nat := 161
theorem pX11_game : xP 161 = some mX11_game := rfl
abbrev jX11_take : Nat := 162
theorem pX11_take : xP 162 = some mX11_take := rfl
abbrev jX11_told : Nat := 163
theorem pX11_told : xP 163 = some mX11_told := rfl
abbrev jX11_whose : Nat := 164
theorem pX11_whose : xP 164 = some mX11_whose := rfl
abbrev jX11_eldest : Nat := 165
theorem pX11_eldest : xP 165 = some mX11_eldest := rfl
abbrev jX11_due : Nat := 166
theorem pX11_due : xP 166 = some mX11_due := rfl
abbrev jX11_ledger : Nat := 167
theorem pX11_ledger : xP 167 = some mX11_ledger := rfl
abbrev jX11_image : Nat := 168
theorem pX11_image : xP 168 = some mX11_image := rfl
abbrev jX11_back : Nat := 169
theorem pX11_back : xP 169 = some mX11_back := rfl
abbrev jX11_about : Nat := 170
theorem pX11_about : xP 170 = some mX11_about := rfl
abbrev jX11_passSteps : Nat := 171
theorem pX11_passSteps : xP 171 = some mX11_passSteps := rfl
abbrev jX11_passDay : Nat := 172
theorem pX11_passDay : xP 172 = some mX11_passDay := rfl
abbrev jX11_playClause : Nat := 173
theorem pX11_playClause : xP 173 = some mX11_playClause := rfl
abbrev jX11_drawYear : Nat := 174
theorem pX11_drawYear : xP 174 = some mX11_drawYear := rfl
abbrev jX11_noteChances : Nat := 175
theorem pX11_noteChances : xP 175 = some mX11_noteChances := rfl
abbrev jX11_spreadOver : Nat := 176
theorem pX11_spreadOver : xP 176 = some mX11_spreadOver := rfl
abbrev jX11_bestThinned : Nat := 177
theorem pX11_bestThinned : xP 177 = some mX11_bestThinned := rfl
abbrev jX11_canCome : Nat := 178
theorem pX11_canCome : xP 178 = some mX11_canCome := rfl
abbrev jX11_leastBound : Nat := 179
theorem pX11_leastBound : xP 179 = some mX11_leastBound := rfl
abbrev jX11_bringsAllTold : Nat := 180
theorem pX11_bringsAllTold : xP 180 = some mX11_bringsAllTold := rfl
abbrev jX11_raise : Nat := 181
theorem pX11_raise : xP 181 = some mX11_raise := rfl
abbrev jX11_multiply : Nat := 182
theorem pX11_multiply : xP 182 = some mX11_multiply := rfl
abbrev jX11_deeper : Nat := 183
theorem pX11_deeper : xP 183 = some mX11_deeper := rfl
abbrev jX11_leastPart : Nat := 184
theorem pX11_leastPart : xP 184 = some mX11_leastPart := rfl
abbrev jX11_firstOfHabit : Nat := 185
theorem pX11_firstOfHabit : xP 185 = some mX11_firstOfHabit := rfl
abbrev jX11_leastCommon : Nat := 186
theorem pX11_leastCommon : xP 186 = some mX11_leastCommon := rfl
abbrev jX11_greatestCommon : Nat := 187
theorem pX11_greatestCommon : xP 187 = some mX11_greatestCommon := rfl
abbrev jX11_lowest : Nat := 188
theorem pX11_lowest : xP 188 = some mX11_lowest := rfl
abbrev jX11_within : Nat := 189
theorem pX11_within : xP 189 = some mX11_within := rfl
abbrev jX11_held : Nat := 190
theorem pX11_held : xP 190 = some mX11_held := rfl
abbrev jX11_isCount : Nat := 191
theorem pX11_isCount : xP 191 = some mX11_isCount := rfl
abbrev jX11_isParish : Nat := 192
theorem pX11_isParish : xP 192 = some mX11_isParish := rfl
abbrev jX11_isCause : Nat := 193
theorem pX11_isCause : xP 193 = some mX11_isCause := rfl
abbrev jX11_isIn : Nat := 194
theorem pX11_isIn : xP 194 = some mX11_isIn := rfl
abbrev jX12_init : Nat := 195
theorem pX12_init : xP 195 = some mX12_init := rfl
abbrev jX12_copy : Nat := 196
theorem pX12_copy : xP 196 = some mX12_copy := rfl
abbrev jX12_isIn : Nat := 197
theorem pX12_isIn : xP 197 = some mX12_isIn := rfl
abbrev jX12_held : Nat := 198
theorem pX12_held : xP 198 = some mX12_held := rfl
abbrev jX12_has : Nat := 199
theorem pX12_has : xP 199 = some mX12_has := rfl
abbrev jX12_bits : Nat := 200
theorem pX12_bits : xP 200 = some mX12_bits := rfl
abbrev jX12_isBird : Nat := 201
theorem pX12_isBird : xP 201 = some mX12_isBird := rfl
abbrev jX12_isCount : Nat := 202
theorem pX12_isCount : xP 202 = some mX12_isCount := rfl
abbrev jX12_isGone : Nat := 203
theorem pX12_isGone : xP 203 = some mX12_isGone := rfl
abbrev jX12_isDue : Nat := 204
theorem pX12_isDue : xP 204 = some mX12_isDue := rfl
abbrev jX12_dueBy : Nat := 205
theorem pX12_dueBy : xP 205 = some mX12_dueBy := rfl
abbrev jX12_dueNow : Nat := 206
theorem pX12_dueNow : xP 206 = some mX12_dueNow := rfl
abbrev jX12_bird : Nat := 207
theorem pX12_bird : xP 207 = some mX12_bird := rfl
abbrev jX12_rhyme : Nat := 208
theorem pX12_rhyme : xP 208 = some mX12_rhyme := rfl
abbrev jX12_four : Nat := 209
theorem pX12_four : xP 209 = some mX12_four := rfl
abbrev jX12_feed : Nat := 210
theorem pX12_feed : xP 210 = some mX12_feed := rfl
abbrev jX12_end : Nat := 211
theorem pX12_end : xP 211 = some mX12_end := rfl
abbrev jX12_byteAt : Nat := 212
theorem pX12_byteAt : xP 212 = some mX12_byteAt := rfl
abbrev jX12_isLetterByte : Nat := 213
theorem pX12_isLetterByte : xP 213 = some mX12_isLetterByte := rfl
abbrev jX12_isFigure : Nat := 214
theorem pX12_isFigure : xP 214 = some mX12_isFigure := rfl
abbrev jX12_isSign : Nat := 215
theorem pX12_isSign : xP 215 = some mX12_isSign := rfl
abbrev jX12_nextToken : Nat := 216
theorem pX12_nextToken : xP 216 = some mX12_nextToken := rfl
abbrev jX12_w2 : Nat := 217
theorem pX12_w2 : xP 217 = some mX12_w2 := rfl
abbrev jX12_w3 : Nat := 218
theorem pX12_w3 : xP 218 = some mX12_w3 := rfl
abbrev jX12_w4 : Nat := 219
theorem pX12_w4 : xP 219 = some mX12_w4 := rfl
abbrev jX12_w5 : Nat := 220
theorem pX12_w5 : xP 220 = some mX12_w5 := rfl
abbrev jX12_w6 : Nat := 221
theorem pX12_w6 : xP 221 = some mX12_w6 := rfl
abbrev jX12_isWord : Nat := 222
theorem pX12_isWord : xP 222 = some mX12_isWord := rfl
abbrev jX12_emit : Nat := 223
theorem pX12_emit : xP 223 = some mX12_emit := rfl
abbrev jX12_nameOf : Nat := 224
theorem pX12_nameOf : xP 224 = some mX12_nameOf := rfl
abbrev jX12_isOf : Nat := 225
theorem pX12_isOf : xP 225 = some mX12_isOf := rfl
abbrev jX12_rank : Nat := 226
theorem pX12_rank : xP 226 = some mX12_rank := rfl
abbrev jX12_settle : Nat := 227
theorem pX12_settle : xP 227 = some mX12_settle := rfl
abbrev jX12_openAt : Nat := 228
theorem pX12_openAt : xP 228 = some mX12_openAt := rfl
abbrev jX12_openNow : Nat := 229
theorem pX12_openNow : xP 229 = some mX12_openNow := rfl
abbrev jX12_isCompared : Nat := 230
theorem pX12_isCompared : xP 230 = some mX12_isCompared := rfl
abbrev jX12_isAskAhead : Nat := 231
theorem pX12_isAskAhead : xP 231 = some mX12_isAskAhead := rfl
abbrev jX12_opened : Nat := 232
theorem pX12_opened : xP 232 = some mX12_opened := rfl
abbrev jX12_beginOne : Nat := 233
theorem pX12_beginOne : xP 233 = some mX12_beginOne := rfl
abbrev jX12_compareOf : Nat := 234
theorem pX12_compareOf : xP 234 = some mX12_compareOf := rfl
abbrev jX12_betweenOf : Nat := 235
theorem pX12_betweenOf : xP 235 = some mX12_betweenOf := rfl
abbrev jX12_partOf : Nat := 236
theorem pX12_partOf : xP 236 = some mX12_partOf := rfl
abbrev jX12_behindOne : Nat := 237
theorem pX12_behindOne : xP 237 = some mX12_behindOne := rfl
abbrev jX12_summed : Nat := 238
theorem pX12_summed : xP 238 = some mX12_summed := rfl
abbrev jX12_figure : Nat := 239
theorem pX12_figure : xP 239 = some mX12_figure := rfl
abbrev jX12_lawClause : Nat := 240
theorem pX12_lawClause : xP 240 = some mX12_lawClause := rfl
abbrev jX12_pair : Nat := 241
theorem pX12_pair : xP 241 = some mX12_pair := rfl
abbrev jX12_body : Nat := 242
theorem pX12_body : xP 242 = some mX12_body := rfl
abbrev jX12_sortOf : Nat := 243
theorem pX12_sortOf : xP 243 = some mX12_sortOf := rfl
abbrev jX12_clause : Nat := 244
theorem pX12_clause : xP 244 = some mX12_clause := rfl
abbrev jX12_readText : Nat := 245
theorem pX12_readText : xP 245 = some mX12_readText := rfl
abbrev jX12_text : Nat := 246
theorem pX12_text : xP 246 = some mX12_text := rfl
abbrev jX12_fault : Nat := 247
theorem pX12_fault : xP 247 = some mX12_fault := rfl
abbrev jX12_by : Nat := 248
theorem pX12_by : xP 248 = some mX12_by := rfl
abbrev jX12_clip : Nat := 249
theorem pX12_clip : xP 249 = some mX12_clip := rfl
abbrev jX12_two : Nat := 250
theorem pX12_two : xP 250 = some mX12_two := rfl
abbrev jX12_isAsked : Nat := 251
theorem pX12_isAsked : xP 251 = some mX12_isAsked := rfl
abbrev jX12_ofOne : Nat := 252
theorem pX12_ofOne : xP 252 = some mX12_ofOne := rfl
abbrev jX12_joined : Nat := 253
theorem pX12_joined : xP 253 = some mX12_joined := rfl
abbrev jX12_summedUp : Nat := 254
theorem pX12_summedUp : xP 254 = some mX12_summedUp := rfl
abbrev jX12_says : Nat := 255
theorem pX12_says : xP 255 = some mX12_says := rfl
abbrev jX12_name : Nat := 256
theorem pX12_name : xP 256 = some mX12_name := rfl
abbrev jX12_chanceOf : Nat := 257
theorem pX12_chanceOf : xP 257 = some mX12_chanceOf := rfl
abbrev jX12_bringsOf : Nat := 258
theorem pX12_bringsOf : xP 258 = some mX12_bringsOf := rfl
abbrev jX12_write : Nat := 259
theorem pX12_write : xP 259 = some mX12_write := rfl
abbrev jX12_drawnBy : Nat := 260
theorem pX12_drawnBy : xP 260 = some mX12_drawnBy := rfl
abbrev jX12_anew : Nat := 261
theorem pX12_anew : xP 261 = some mX12_anew := rfl
abbrev jX12_canGrant : Nat := 262
theorem pX12_canGrant : xP 262 = some mX12_canGrant := rfl
abbrev jX12_pass : Nat := 263
theorem pX12_pass : xP 263 = some mX12_pass := rfl
abbrev jX12_keep : Nat := 264
theorem pX12_keep : xP 264 = some mX12_keep := rfl
abbrev jX12_undo : Nat := 265
theorem pX12_undo : xP 265 = some mX12_undo := rfl
abbrev jX12_thin : Nat := 266
theorem pX12_thin : xP 266 = some mX12_thin := rfl
abbrev jX12_call : Nat := 267
theorem pX12_call : xP 267 = some mX12_call := rfl
abbrev jX12_grant : Nat := 268
theorem pX12_grant : xP 268 = some mX12_grant := rfl
abbrev jX12_arePassed : Nat := 269
theorem pX12_arePassed : xP 269 = some mX12_arePassed := rfl
abbrev jX12_day : Nat := 270
theorem pX12_day : xP 270 = some mX12_day := rfl
abbrev jX12_isPlayed : Nat := 271
theorem pX12_isPlayed : xP 271 = some mX12_isPlayed := rfl
abbrev jX12_played : Nat := 272
theorem pX12_played : xP 272 = some mX12_played := rfl
abbrev jX12_happens : Nat := 273
theorem pX12_happens : xP 273 = some mX12_happens := rfl
abbrev jX12_years : Nat := 274
theorem pX12_years : xP 274 = some mX12_years := rfl
abbrev jX12_of : Nat := 275
theorem pX12_of : xP 275 = some mX12_of := rfl
abbrev jX12_is : Nat := 276
theorem pX12_is : xP 276 = some mX12_is := rfl
abbrev jX12_things : Nat := 277
theorem pX12_things : xP 277 = some mX12_things := rfl
abbrev jX12_brings : Nat := 278
theorem pX12_brings : xP 278 = some mX12_brings := rfl
abbrev jX12_lineOf : Nat := 279
theorem pX12_lineOf : xP 279 = some mX12_lineOf := rfl
abbrev jX12_book : Nat := 280
theorem pX12_book : xP 280 = some mX12_book := rfl
abbrev jX12_ledger : Nat := 281
theorem pX12_ledger : xP 281 = some mX12_ledger := rfl
abbrev jX12_eldest : Nat := 282
theorem pX12_eldest : xP 282 = some mX12_eldest := rfl
abbrev jX12_due : Nat := 283
theorem pX12_due : xP 283 = some mX12_due := rfl
abbrev jX12_foretold : Nat := 284
theorem pX12_foretold : xP 284 = some mX12_foretold := rfl
abbrev jX12_divisor : Nat := 285
theorem pX12_divisor : xP 285 = some mX12_divisor := rfl
abbrev jX12_part : Nat := 286
theorem pX12_part : xP 286 = some mX12_part := rfl
abbrev jX12_noRows : Nat := 287
theorem pX12_noRows : xP 287 = some mX12_noRows := rfl
abbrev jX12_oneMore : Nat := 288
theorem pX12_oneMore : xP 288 = some mX12_oneMore := rfl
abbrev jX12_layRows : Nat := 289
theorem pX12_layRows : xP 289 = some mX12_layRows := rfl
abbrev jX12_likely : Nat := 290
theorem pX12_likely : xP 290 = some mX12_likely := rfl
abbrev jX12_mean : Nat := 291
theorem pX12_mean : xP 291 = some mX12_mean := rfl
abbrev jX12_best : Nat := 292
theorem pX12_best : xP 292 = some mX12_best := rfl
abbrev jX12_morning : Nat := 293
theorem pX12_morning : xP 293 = some mX12_morning := rfl
abbrev jX12_isHabit : Nat := 294
theorem pX12_isHabit : xP 294 = some mX12_isHabit := rfl
abbrev jX12_habits : Nat := 295
theorem pX12_habits : xP 295 = some mX12_habits := rfl
abbrev jX12_firstHabit : Nat := 296
theorem pX12_firstHabit : xP 296 = some mX12_firstHabit := rfl
abbrev jX12_habit : Nat := 297
theorem pX12_habit : xP 297 = some mX12_habit := rfl
abbrev jX12_whom : Nat := 298
theorem pX12_whom : xP 298 = some mX12_whom := rfl
abbrev jX12_rota : Nat := 299
theorem pX12_rota : xP 299 = some mX12_rota := rfl
abbrev jX12_gather : Nat := 300
theorem pX12_gather : xP 300 = some mX12_gather := rfl
abbrev jX12_comes : Nat := 301
theorem pX12_comes : xP 301 = some mX12_comes := rfl
abbrev jX12_follows : Nat := 302
theorem pX12_follows : xP 302 = some mX12_follows := rfl
abbrev jX12_afterOf : Nat := 303
theorem pX12_afterOf : xP 303 = some mX12_afterOf := rfl
abbrev jX12_agree : Nat := 304
theorem pX12_agree : xP 304 = some mX12_agree := rfl
abbrev jX12_ringOf : Nat := 305
theorem pX12_ringOf : xP 305 = some mX12_ringOf := rfl
abbrev jX12_ring : Nat := 306
theorem pX12_ring : xP 306 = some mX12_ring := rfl
abbrev jX12_till : Nat := 307
theorem pX12_till : xP 307 = some mX12_till := rfl
abbrev jX12_after : Nat := 308
theorem pX12_after : xP 308 = some mX12_after := rfl
abbrev jX12_areOdds : Nat := 309
theorem pX12_areOdds : xP 309 = some mX12_areOdds := rfl
abbrev jX12_layTest : Nat := 310
theorem pX12_layTest : xP 310 = some mX12_layTest := rfl
abbrev jX12_rowsFrom : Nat := 311
theorem pX12_rowsFrom : xP 311 = some mX12_rowsFrom := rfl
abbrev jX12_test : Nat := 312
theorem pX12_test : xP 312 = some mX12_test := rfl
abbrev jX12_bound : Nat := 313
theorem pX12_bound : xP 313 = some mX12_bound := rfl
abbrev jX12_sure : Nat := 314
theorem pX12_sure : xP 314 = some mX12_sure := rfl
abbrev jX12_votes : Nat := 315
theorem pX12_votes : xP 315 = some mX12_votes := rfl
abbrev jX12_allVotes : Nat := 316
theorem pX12_allVotes : xP 316 = some mX12_allVotes := rfl
abbrev jX12_isAhead : Nat := 317
theorem pX12_isAhead : xP 317 = some mX12_isAhead := rfl
abbrev jX12_laySeats : Nat := 318
theorem pX12_laySeats : xP 318 = some mX12_laySeats := rfl
abbrev jX12_areSeats : Nat := 319
theorem pX12_areSeats : xP 319 = some mX12_areSeats := rfl
abbrev jX12_seats : Nat := 320
theorem pX12_seats : xP 320 = some mX12_seats := rfl
abbrev jX12_unlike : Nat := 321
theorem pX12_unlike : xP 321 = some mX12_unlike := rfl
abbrev jX12_ranks : Nat := 322
theorem pX12_ranks : xP 322 = some mX12_ranks := rfl
abbrev jX12_isCause : Nat := 323
theorem pX12_isCause : xP 323 = some mX12_isCause := rfl
abbrev jX12_factorial : Nat := 324
theorem pX12_factorial : xP 324 = some mX12_factorial := rfl
abbrev jX12_causeAt : Nat := 325
theorem pX12_causeAt : xP 325 = some mX12_causeAt := rfl
abbrev jX12_placeBy : Nat := 326
theorem pX12_placeBy : xP 326 = some mX12_placeBy := rfl
abbrev jX12_doesBeat : Nat := 327
theorem pX12_doesBeat : xP 327 = some mX12_doesBeat := rfl
abbrev jX12_beats : Nat := 328
theorem pX12_beats : xP 328 = some mX12_beats := rfl
abbrev jX12_winner : Nat := 329
theorem pX12_winner : xP 329 = some mX12_winner := rfl
abbrev jX12_points : Nat := 330
theorem pX12_points : xP 330 = some mX12_points := rfl
abbrev jX12_firstVotes : Nat := 331
theorem pX12_firstVotes : xP 331 = some mX12_firstVotes := rfl
abbrev jX12_runoff : Nat := 332
theorem pX12_runoff : xP 332 = some mX12_runoff := rfl
abbrev jX12_layFigures : Nat := 333
theorem pX12_layFigures : xP 333 = some mX12_layFigures := rfl
abbrev jX12_areTimes : Nat := 334
theorem pX12_areTimes : xP 334 = some mX12_areTimes := rfl
abbrev jX12_digits : Nat := 335
theorem pX12_digits : xP 335 = some mX12_digits := rfl
abbrev jX12_digit : Nat := 336
theorem pX12_digit : xP 336 = some mX12_digit := rfl
abbrev jX12_isGuess : Nat := 337
theorem pX12_isGuess : xP 337 = some mX12_isGuess := rfl
abbrev jX12_depth : Nat := 338
theorem pX12_depth : xP 338 = some mX12_depth := rfl
abbrev jX12_rests : Nat := 339
theorem pX12_rests : xP 339 = some mX12_rests := rfl
abbrev jX12_winAt : Nat := 340
theorem pX12_winAt : xP 340 = some mX12_winAt := rfl
abbrev jX12_takeOf : Nat := 341
theorem pX12_takeOf : xP 341 = some mX12_takeOf := rfl
abbrev jX12_layWins : Nat := 342
theorem pX12_layWins : xP 342 = some mX12_layWins := rfl
abbrev jX12_game : Nat := 343
theorem pX12_game : xP 343 = some mX12_game := rfl
abbrev jX12_take : Nat := 344
theorem pX12_take : xP 344 = some mX12_take := rfl
abbrev jX12_told : Nat := 345
theorem pX12_told : xP 345 = some mX12_told := rfl
abbrev jX12_whose : Nat := 346
theorem pX12_whose : xP 346 = some mX12_whose := rfl
abbrev jX12_image : Nat := 347
theorem pX12_image : xP 347 = some mX12_image := rfl
abbrev jX12_back : Nat := 348
theorem pX12_back : xP 348 = some mX12_back := rfl
abbrev jX12_about : Nat := 349
theorem pX12_about : xP 349 = some mX12_about := rfl
abbrev jJ6_bitCount_0f7a4 : Nat := 350
theorem pJ6_bitCount_0f7a4 : xP 350 = some mJ6_bitCount_0f7a4 := rfl
abbrev jJ7_fill_d0a16 : Nat := 351
theorem pJ7_fill_d0a16 : xP 351 = some mJ7_fill_d0a16 := rfl
abbrev jJ7_fill_53178 : Nat := 352
theorem pJ7_fill_53178 : xP 352 = some mJ7_fill_53178 := rfl
abbrev jJ7_copyOf_59c91 : Nat := 353
theorem pJ7_copyOf_59c91 : xP 353 = some mJ7_copyOf_59c91 := rfl
abbrev jJ0_charAt_5068e : Nat := 354
theorem pJ0_charAt_5068e : xP 354 = some mJ0_charAt_5068e := rfl
abbrev jJ0_length_8abf5 : Nat := 355
theorem pJ0_length_8abf5 : xP 355 = some mJ0_length_8abf5 := rfl
abbrev jJ0_indexOf_0f7a4 : Nat := 356
theorem pJ0_indexOf_0f7a4 : xP 356 = some mJ0_indexOf_0f7a4 := rfl
abbrev jJ0_indexOf_7cf53 : Nat := 357
theorem pJ0_indexOf_7cf53 : xP 357 = some mJ0_indexOf_7cf53 := rfl
abbrev jJ0_coder_7d493 : Nat := 358
theorem pJ0_coder_7d493 : xP 358 = some mJ0_coder_7d493 := rfl
abbrev jJ0_isLatin1_aae02 : Nat := 359
theorem pJ0_isLatin1_aae02 : xP 359 = some mJ0_isLatin1_aae02 := rfl
abbrev jJ1_charAt_3b067 : Nat := 360
theorem pJ1_charAt_3b067 : xP 360 = some mJ1_charAt_3b067 := rfl
abbrev jJ1_canEncode_9a6ad : Nat := 361
theorem pJ1_canEncode_9a6ad : xP 361 = some mJ1_canEncode_9a6ad := rfl
abbrev jJ1_indexOf_4cfef : Nat := 362
theorem pJ1_indexOf_4cfef : xP 362 = some mJ1_indexOf_4cfef := rfl
abbrev jJ1_indexOfChar_4cfef : Nat := 363
theorem pJ1_indexOfChar_4cfef : xP 363 = some mJ1_indexOfChar_4cfef := rfl
abbrev jJ0_checkIndex_df160 : Nat := 364
theorem pJ0_checkIndex_df160 : xP 364 = some mJ0_checkIndex_df160 := rfl
abbrev jJ3_checkIndex_8e157 : Nat := 365
theorem pJ3_checkIndex_8e157 : xP 365 = some mJ3_checkIndex_8e157 := rfl
