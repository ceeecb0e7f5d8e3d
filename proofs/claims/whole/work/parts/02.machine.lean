/-! THE PURE MACHINE: ints as Int, cells as (group, row), a store Nat -> Nat -> Nat -> Int; its steps are those of the bytecode -/
abbrev PV : Type := Int ⊕ ((Nat × Nat) ⊕ Int)
abbrev vi (x : Int) : PV := .inl x
abbrev vr (c j : Nat) : PV := .inr (.inl (c, j))
abbrev vl (x : Int) : PV := .inr (.inr x)
abbrev UU : PV := .inr (.inl (999, 0))
abbrev SEC : PV := .inr (.inl (998, 0))
abbrev Sg : Type := Nat → Nat → Nat → Int
abbrev Cfg : Type := Nat × List PV × List PV × Sg
abbrev Md : Type := Nat × MethodName × ByteArray × Nat × Option FieldType
abbrev Out : Type := Cfg ⊕ ((Nat × Md × List PV × Cfg) ⊕ (Option PV × Sg))
abbrev Rs : Type := Option (Option PV × Sg)
def up (σ : Sg) (c j i : Nat) (v : Int) : Sg := fun c' j' i' => if c' = c ∧ j' = j ∧ i' = i then v else σ c' j' i'
def w32 (x : Int) : Int := (Int32.ofInt x).toInt
def w64 (x : Int) : Int := (Int64.ofInt x).toInt
def wdiv (a b : Int) : Int := (Int32.ofInt a / Int32.ofInt b).toInt
def wrem (a b : Int) : Int := (Int32.ofInt a - Int32.ofInt a / Int32.ofInt b * Int32.ofInt b).toInt
def wand (a b : Int) : Int := (Int32.ofInt a &&& Int32.ofInt b).toInt
def wor (a b : Int) : Int := (Int32.ofInt a ||| Int32.ofInt b).toInt
def wxor (a b : Int) : Int := (Int32.ofInt a ^^^ Int32.ofInt b).toInt
def wshl (a b : Int) : Int := (Int32.ofInt a <<< (Int32.ofInt b &&& 31)).toInt
def wshr (a b : Int) : Int := (Int32.ofInt a >>> (Int32.ofInt b &&& 31)).toInt
def wush (a b : Int) : Int := ((Int32.ofInt a).toUInt32 >>> ((Int32.ofInt b).toUInt32 &&& Int32.toUInt32 31)).toInt32.toInt
def wi2b (a : Int) : Int := (Int32.ofInt a).toInt8.toInt32.toInt
def wi2s (a : Int) : Int := (Int32.ofInt a).toInt16.toInt32.toInt
def wi2c (a : Int) : Int := ((Int32.ofInt a).toUInt32 % 65536).toInt32.toInt
def wl2i (a : Int) : Int := (Int64.ofInt a).toInt32.toInt
def wldiv (a b : Int) : Int := (Int64.ofInt a / Int64.ofInt b).toInt
def wlrem (a b : Int) : Int := (Int64.ofInt a - Int64.ofInt a / Int64.ofInt b * Int64.ofInt b).toInt
def wlcmp (a b : Int) : Int := if b < a then 1 else if a = b then 0 else -1
abbrev inb (i : Int) (n : Nat) : Prop := 0 ≤ i ∧ i < (n : Int)
def kdT : List Nat := [18, 11, 2, 0, 15, 2, 0, 2, 0, 0, 0, 14, 0, 17, 0, 0, 0, 0, 0, 0, 0, 10, 2, 0, 0, 0, 12, 2, 0, 3, 16, 0, 19, 0, 0, 0, 0, 0, 0, 0, 0, 0, 0, 0, 0, 0, 0, 0, 1, 0, 0, 0, 0, 0, 0, 30, 30, 30, 4, 4, 4, 9]
def lnT : List Nat := [0, 0, 6, 6, 0, 6, 160, 6, 3, 160, 6, 0, 160, 0, 4, 6, 6, 6, 6, 6, 6, 0, 4, 64, 4, 6, 0, 5, 6, 4, 0, 40, 0, 960, 6, 160, 6, 30, 6, 6, 6, 6, 800, 800, 256, 4, 6, 30, 4, 4, 4, 160, 6, 7, 6, 0, 0, 0, 32, 65, 8, 0]
def rwT : List Nat := [1, 1, 1, 6, 1, 1, 6, 1, 6, 1, 1, 1, 1, 1, 1, 1, 1, 1, 1, 1, 1, 1, 1, 4, 1, 1, 1, 1, 5, 1, 4, 4, 1, 1, 1, 1, 1, 1, 1, 1, 1, 1, 1, 1, 1, 1, 1, 1, 1, 1, 1, 1, 1, 1, 1, 1, 1, 1, 1, 1, 1, 1]
def rfT : List (List Nat) := [[1, 4, 11, 13, 21, 29, 26], [2, 99], [3], [], [5, 7, 9, 10, 99, 99, 99], [6], [], [8], [], [], [], [4, 12, 99, 99, 99, 99, 99], [], [1, 4, 14, 15, 16, 17, 18, 19, 20, 99, 99, 99, 99, 99, 99], [], [], [], [], [], [], [], [1, 13, 22, 24, 25, 99, 99], [23], [], [], [], [27, 99, 99], [28], [], [30], [31, 99, 99], [], [99, 33, 34, 99, 99, 35, 99, 36, 37, 99, 99, 99, 99, 99, 99, 99, 99, 99, 99, 99, 99, 99, 99, 99, 99, 99, 38, 39, 40, 41, 42, 43, 44, 45, 99, 99, 46, 47, 99, 99, 48, 49, 50, 51], [], [], [], [], [], [], [], [], [], [], [], [], [], [], [], [], [], [], [], [], [], [], [58], [59], [60], [], [], [], []]
def kd (c : Nat) : Nat := kdT.getD c 9
def ln (c : Nat) : Nat := lnT.getD c 0
def rw_ (c : Nat) : Nat := rwT.getD c 0
def rf (c k : Nat) : Nat := (rfT.getD c []).getD k 99
def svT : List (List Int) := [[9, 1, 3, 99, 9, 5], [-1, 5, 0, 2, 4, 3, 3], [-1, 0, 0, 1, 2, 0], [], [], [], [116, 97, 107, 101, 115, 32, 52, 32, 59, 32, 102, 111, 114, 119, 97, 114, 100, 115, 32, 49, 32, 59, 32, 109, 105, 110, 100, 115, 32, 49, 32, 59], [99, 97, 112, 32, 108, 97, 110, 101, 32, 109, 105, 110, 117, 116, 101, 32, 110, 117, 109, 98, 101, 114, 32, 97, 104, 101, 97, 100, 32, 112, 105, 101, 32, 116, 97, 107, 101, 115, 32, 102, 111, 114, 119, 97, 114, 100, 115, 32, 109, 105, 110, 100, 115, 32, 111, 114, 32, 97, 110, 100, 32, 110, 111, 116, 32], [40, 41, 59, 43, 45, 42, 60, 61], []]
/-- what a static cell holds -/
def sv (c i : Nat) : Int := (svT.getD (c - 52) []).getD i 0
def rd (σ : Sg) (c j i : Nat) : Int := match Nat.blt c 52 with | true => σ c j i | false => sv c i
def fkT : List (List Nat) := [[3, 3, 3, 3, 3, 0, 0], [3, 0], [3, 0, 0], [], [3, 3, 0, 0, 0, 0, 0], [3, 3, 3, 3, 0, 0, 0], [3, 0, 0], [3, 3, 3, 3, 3, 3, 3, 3, 3, 0, 0, 0, 0, 0, 2], [3, 3, 3, 3, 3, 3, 3], [0, 3, 3, 0, 0, 3, 0, 3, 3, 0, 0, 0, 0, 0, 0, 0, 0, 0, 0, 0, 0, 1, 0, 2, 0, 2, 3, 3, 3, 3, 3, 3, 3, 3, 0, 0, 3, 3, 0, 0, 3, 3, 3, 3], [], [], [], [], [], [], [], [], [], [], [3, 0]]
def fk (ci k : Nat) : Nat := (fkT.getD ci []).getD k 9
def ftlT : Nat → List (Nat × (Nat × Nat)) := fun o => match o with
  | 0 => [(11, (0, 2)), (16, (0, 3)), (20, (0, 4)), (23, (0, 0)), (27, (0, 1)), (31, (0, 5)), (35, (0, 6))]
  | 1 => [(11, (1, 0)), (16, (1, 1))]
  | 2 => [(11, (2, 0)), (16, (2, 1)), (30, (2, 2))]
  | 4 => [(9, (4, 1)), (15, (4, 0)), (19, (4, 2)), (37, (4, 3)), (51, (4, 5)), (54, (4, 4)), (88, (4, 6))]
  | 5 => [(11, (5, 0)), (16, (5, 1)), (19, (5, 2)), (23, (5, 3)), (26, (5, 4)), (30, (5, 5)), (37, (5, 6))]
  | 6 => [(9, (6, 0)), (15, (6, 1)), (19, (6, 2))]
  | 7 => [(9, (7, 2)), (15, (7, 3)), (18, (7, 4)), (21, (7, 5)), (24, (7, 6)), (27, (7, 7)), (30, (7, 8)), (33, (7, 0)), (37, (7, 1)), (59, (7, 14)), (63, (7, 13)), (70, (7, 11)), (73, (7, 12)), (86, (7, 10)), (89, (7, 9))]
  | 8 => [(10, (8, 0)), (19, (8, 1)), (28, (8, 2)), (37, (8, 3)), (46, (8, 4)), (53, (8, 6)), (59, (8, 5))]
  | 9 => [(13, (9, 1)), (17, (9, 2)), (20, (9, 5)), (23, (9, 7)), (26, (9, 8)), (29, (9, 26)), (32, (9, 27)), (35, (9, 28)), (38, (9, 29)), (41, (9, 30)), (44, (9, 31)), (47, (9, 32)), (50, (9, 33)), (53, (9, 36)), (56, (9, 37)), (59, (9, 38)), (62, (9, 40)), (66, (9, 41)), (69, (9, 42)), (72, (9, 43)), (79, (9, 3)), (82, (9, 9)), (99, (9, 4)), (131, (9, 6)), (134, (9, 17)), (137, (9, 16)), (140, (9, 18)), (146, (9, 20)), (149, (9, 19)), (160, (9, 21)), (164, (9, 23)), (168, (9, 24)), (174, (9, 22)), (187, (9, 10)), (190, (9, 11)), (193, (9, 12)), (196, (9, 13)), (199, (9, 14)), (202, (9, 15)), (250, (9, 25)), (287, (9, 34)), (290, (9, 35)), (319, (9, 39))]
  | 20 => [(9, (20, 0)), (15, (20, 1))]
  | _ => []
def ftl (o i : Nat) : Option ((Nat × Nat)) := (ftlT o).lookup i
def gtlT : Nat → List (Nat × PV) := fun o => match o with
  | 0 => [(73, vr 52 0)]
  | 1 => [(36, vr 52 0)]
  | 3 => [(11, vr 54 0)]
  | 8 => [(81, vr 52 0), (246, vr 53 0)]
  | 20 => [(38, vi 1), (1053, vr 61 0)]
  | _ => []
def gtl (o i : Nat) : Option (PV) := (gtlT o).lookup i
def lclT : Nat → List (Nat × Int) := fun o => match o with
  | 7 => [(58, 1103515245)]
  | 9 => [(311, 1103515245)]
  | _ => []
def lcl (o i : Nat) : Option (Int) := (lclT o).lookup i
def lllT : Nat → List (Nat × Int) := fun o => match o with
  | 8 => [(210, -4611686018427387904)]
  | 9 => [(89, 4), (102, 5), (104, 9), (106, 3), (108, 10), (129, 255), (152, 97), (154, 122), (156, 48), (158, 57), (225, 43), (233, 60), (276, 199), (299, 69), (315, 20), (317, -4611686018427387904), (322, -1), (324, 2), (326, 6)]
  | _ => []
def lll (o i : Nat) : Option (Int) := (lllT o).lookup i
def lslT : Nat → List (Nat × Nat) := fun o => match o with
  | 4 => [(109, 57), (115, 56)]
  | 8 => [(64, 55)]
  | _ => []
def lsl (o i : Nat) : Option (Nat) := (lslT o).lookup i
def mX0_answer : Md := (0, yX0_answer, cX0_answer, 2, (some .int))
def mX0_seekLane : Md := (0, yX0_seekLane, cX0_seekLane, 5, none)
def mX0_seekLanes : Md := (0, yX0_seekLanes, cX0_seekLanes, 4, none)
def mX0_seekMinute : Md := (0, yX0_seekMinute, cX0_seekMinute, 5, none)
def mX0_seekBlame : Md := (0, yX0_seekBlame, cX0_seekBlame, 4, none)
def mX0_commonDivisor : Md := (0, yX0_commonDivisor, cX0_commonDivisor, 6, (some .int))
def mX0_fillLaneBadness : Md := (0, yX0_fillLaneBadness, cX0_fillLaneBadness, 3, none)
def mX0_badnessOfWay : Md := (0, yX0_badnessOfWay, cX0_badnessOfWay, 4, (some .int))
def mX0_laneInWay : Md := (0, yX0_laneInWay, cX0_laneInWay, 3, (some .int))
def mX0_digits : Md := (0, yX0_digits, cX0_digits, 4, (some .int))
def mX1_size : Md := (1, yX1_size, cX1_size, 1, (some .int))
def mX1_has : Md := (1, yX1_has, cX1_has, 2, (some .boolean))
def mX1_tell : Md := (1, yX1_tell, cX1_tell, 3, (some .int))
def mX1_put : Md := (1, yX1_put, cX1_put, 5, (some .int))
def mX1_welcome : Md := (1, yX1_welcome, cX1_welcome, 5, (some .int))
def mX1_sendAwayFrom : Md := (1, yX1_sendAwayFrom, cX1_sendAwayFrom, 2, none)
def mX1_isOne : Md := (1, yX1_isOne, cX1_isOne, 2, (some .boolean))
def mX2_isTaken : Md := (2, yX2_isTaken, cX2_isTaken, 1, (some .boolean))
def mX2_take : Md := (2, yX2_take, cX2_take, 5, none)
def mX2_layBack : Md := (2, yX2_layBack, cX2_layBack, 5, none)
def mX3_minutes : Md := (3, yX3_minutes, cX3_minutes, 3, (some .int))
def mX3_fits : Md := (3, yX3_fits, cX3_fits, 3, (some .boolean))
def mX3_drawsForward : Md := (3, yX3_drawsForward, cX3_drawsForward, 3, (some .boolean))
def mX3_isLong : Md := (3, yX3_isLong, cX3_isLong, 1, (some .boolean))
def mX3_isUnder : Md := (3, yX3_isUnder, cX3_isUnder, 4, (some .boolean))
def mX4_size : Md := (4, yX4_size, cX4_size, 1, (some .int))
def mX4_empty : Md := (4, yX4_empty, cX4_empty, 1, none)
def mX4_add : Md := (4, yX4_add, cX4_add, 2, (some .boolean))
def mX4_lay : Md := (4, yX4_lay, cX4_lay, 3, none)
def mX4_readText : Md := (4, yX4_readText, cX4_readText, 2, (some .int))
def mX4_readPart : Md := (4, yX4_readPart, cX4_readPart, 2, (some .boolean))
def mX4_readOr : Md := (4, yX4_readOr, cX4_readOr, 3, (some .boolean))
def mX4_readAnd : Md := (4, yX4_readAnd, cX4_readAnd, 3, (some .boolean))
def mX4_readNot : Md := (4, yX4_readNot, cX4_readNot, 2, (some .boolean))
def mX4_readComparison : Md := (4, yX4_readComparison, cX4_readComparison, 3, (some .boolean))
def mX4_readSum : Md := (4, yX4_readSum, cX4_readSum, 4, (some .boolean))
def mX4_readTerm : Md := (4, yX4_readTerm, cX4_readTerm, 3, (some .boolean))
def mX4_readOne : Md := (4, yX4_readOne, cX4_readOne, 3, (some .boolean))
def mX4_readNegated : Md := (4, yX4_readNegated, cX4_readNegated, 2, (some .boolean))
def mX4_readEnclosed : Md := (4, yX4_readEnclosed, cX4_readEnclosed, 2, (some .boolean))
def mX4_step : Md := (4, yX4_step, cX4_step, 1, none)
def mX4_stepWord : Md := (4, yX4_stepWord, cX4_stepWord, 4, none)
def mX4_isSpelled : Md := (4, yX4_isSpelled, cX4_isSpelled, 4, (some .boolean))
def mX4_stepNumeral : Md := (4, yX4_stepNumeral, cX4_stepNumeral, 1, none)
def mX4_isLetter : Md := (4, yX4_isLetter, cX4_isLetter, 2, (some .boolean))
def mX4_isDigit : Md := (4, yX4_isDigit, cX4_isDigit, 2, (some .boolean))
def mX5_size : Md := (5, yX5_size, cX5_size, 1, (some .int))
def mX5_isFull : Md := (5, yX5_isFull, cX5_isFull, 1, (some .boolean))
def mX5_has : Md := (5, yX5_has, cX5_has, 2, (some .boolean))
def mX5_chosen : Md := (5, yX5_chosen, cX5_chosen, 1, (some .int))
def mX5_choose : Md := (5, yX5_choose, cX5_choose, 3, (some .int))
def mX5_beginText : Md := (5, yX5_beginText, cX5_beginText, 1, none)
def mX5_beginPart : Md := (5, yX5_beginPart, cX5_beginPart, 2, none)
def mX5_write : Md := (5, yX5_write, cX5_write, 2, none)
def mX5_endText : Md := (5, yX5_endText, cX5_endText, 1, none)
def mX5_ask : Md := (5, yX5_ask, cX5_ask, 12, (some .int))
def mX5_joined : Md := (5, yX5_joined, cX5_joined, 3, (some .int))
def mX6_size : Md := (6, yX6_size, cX6_size, 1, (some .int))
def mX6_sort : Md := (6, yX6_sort, cX6_sort, 1, (some .int))
def mX6_isMissing : Md := (6, yX6_isMissing, cX6_isMissing, 1, (some .boolean))
def mX6_become : Md := (6, yX6_become, cX6_become, 4, none)
def mX6_hasRun : Md := (6, yX6_hasRun, cX6_hasRun, 3, (some .boolean))
def mX6_item : Md := (6, yX6_item, cX6_item, 2, (some .int))
def mX6_put : Md := (6, yX6_put, cX6_put, 3, (some .boolean))
def mX6_putRun : Md := (6, yX6_putRun, cX6_putRun, 5, none)
def mX6_narrow : Md := (6, yX6_narrow, cX6_narrow, 2, (some .int))
def mX7_spread : Md := (7, yX7_spread, cX7_spread, 2, none)
def mX7_spreadBySeed : Md := (7, yX7_spreadBySeed, cX7_spreadBySeed, 4, none)
def mX7_leaveOut : Md := (7, yX7_leaveOut, cX7_leaveOut, 3, none)
def mX7_sendAllForward : Md := (7, yX7_sendAllForward, cX7_sendAllForward, 2, none)
def mX7_playAll : Md := (7, yX7_playAll, cX7_playAll, 3, (some .int))
def mX7_playLane : Md := (7, yX7_playLane, cX7_playLane, 4, (some .int))
def mX7_starts : Md := (7, yX7_starts, cX7_starts, 2, (some .int))
def mX7_off : Md := (7, yX7_off, cX7_off, 2, (some .int))
def mX7_place : Md := (7, yX7_place, cX7_place, 2, (some .int))
def mX7_waited : Md := (7, yX7_waited, cX7_waited, 3, (some .int))
def mX7_share : Md := (7, yX7_share, cX7_share, 2, (some .int))
def mX7_inVain : Md := (7, yX7_inVain, cX7_inVain, 1, (some .int))
def mX7_whoIsAt : Md := (7, yX7_whoIsAt, cX7_whoIsAt, 7, (some .int))
def mX7_lastOff : Md := (7, yX7_lastOff, cX7_lastOff, 3, (some .int))
def mX7_outOfOrder : Md := (7, yX7_outOfOrder, cX7_outOfOrder, 6, (some .int))
def mX7_otherwise : Md := (7, yX7_otherwise, cX7_otherwise, 4, (some .int))
def mX7_fits : Md := (7, yX7_fits, cX7_fits, 3, (some .boolean))
def mX7_drawsForward : Md := (7, yX7_drawsForward, cX7_drawsForward, 5, (some .boolean))
def mX7_takes : Md := (7, yX7_takes, cX7_takes, 7, (some .int))
def mX7_minds : Md := (7, yX7_minds, cX7_minds, 3, (some .int))
def mX7_clearLanes : Md := (7, yX7_clearLanes, cX7_clearLanes, 2, none)
def mX7_join : Md := (7, yX7_join, cX7_join, 3, none)
def mX7_comesBefore : Md := (7, yX7_comesBefore, cX7_comesBefore, 5, (some .boolean))
def mX7_lineUp : Md := (7, yX7_lineUp, cX7_lineUp, 5, none)
def mX7_leave : Md := (7, yX7_leave, cX7_leave, 2, none)
def mX7_driveUp : Md := (7, yX7_driveUp, cX7_driveUp, 6, none)
def mX7_badness : Md := (7, yX7_badness, cX7_badness, 5, (some .int))
def mX7_within : Md := (7, yX7_within, cX7_within, 2, (some .int))
def mX8_set : Md := (8, yX8_set, cX8_set, 4, (some .int))
def mX8_car : Md := (8, yX8_car, cX8_car, 4, (some .int))
def mX8_told : Md := (8, yX8_told, cX8_told, 5, (some .int))
def mX8_feed : Md := (8, yX8_feed, cX8_feed, 2, (some .int))
def mX8_text : Md := (8, yX8_text, cX8_text, 2, (some .int))
def mX8_force : Md := (8, yX8_force, cX8_force, 2, (some .int))
def mX8_times : Md := (8, yX8_times, cX8_times, 3, (some .int))
def mX8_pump : Md := (8, yX8_pump, cX8_pump, 4, (some .int))
def mX8_all : Md := (8, yX8_all, cX8_all, 3, (some .int))
def mX8_lane : Md := (8, yX8_lane, cX8_lane, 3, (some .int))
def mX8_lanes : Md := (8, yX8_lanes, cX8_lanes, 2, (some .int))
def mX8_when : Md := (8, yX8_when, cX8_when, 3, (some .int))
def mX8_forward : Md := (8, yX8_forward, cX8_forward, 3, (some .int))
def mX8_blame : Md := (8, yX8_blame, cX8_blame, 2, (some .int))
def mX8_tells : Md := (8, yX8_tells, cX8_tells, 6, (some .int))
def mX8_film : Md := (8, yX8_film, cX8_film, 4, (some .int))
def mX8_drawn : Md := (8, yX8_drawn, cX8_drawn, 2, (some .int))
def mX8_chance : Md := (8, yX8_chance, cX8_chance, 7, (some .long))
def mX8_image : Md := (8, yX8_image, cX8_image, 1, (some .int))
def mX8_back : Md := (8, yX8_back, cX8_back, 1, (some .int))
def mX8_count : Md := (8, yX8_count, cX8_count, 2, (some .int))
def mX8_sheet : Md := (8, yX8_sheet, cX8_sheet, 4, (some .int))
def mX8_cell : Md := (8, yX8_cell, cX8_cell, 5, (some .int))
def mX8_copy : Md := (8, yX8_copy, cX8_copy, 8, (some .int))
def mX8_cars : Md := (8, yX8_cars, cX8_cars, 9, (some .int))
def mX8_taken : Md := (8, yX8_taken, cX8_taken, 3, (some .int))
def mX8_isSheet : Md := (8, yX8_isSheet, cX8_isSheet, 1, (some .boolean))
def mX8_otherwiseNow : Md := (8, yX8_otherwiseNow, cX8_otherwiseNow, 2, (some .int))
def mX8_likelyTexts : Md := (8, yX8_likelyTexts, cX8_likelyTexts, 5, (some .int))
def mX8_likely : Md := (8, yX8_likely, cX8_likely, 10, (some .int))
def mX9_in : Md := (9, yX9_in, cX9_in, 6, (some .boolean))
def mX9_within : Md := (9, yX9_within, cX9_within, 3, (some .int))
def mX9_spell : Md := (9, yX9_spell, cX9_spell, 10, none)
def mX9_isCar : Md := (9, yX9_isCar, cX9_isCar, 2, (some .boolean))
def mX9_mostOf : Md := (9, yX9_mostOf, cX9_mostOf, 1, (some .int))
def mX9_set : Md := (9, yX9_set, cX9_set, 5, (some .int))
def mX9_lays : Md := (9, yX9_lays, cX9_lays, 4, none)
def mX9_car : Md := (9, yX9_car, cX9_car, 5, (some .int))
def mX9_told : Md := (9, yX9_told, cX9_told, 5, (some .int))
def mX9_feed : Md := (9, yX9_feed, cX9_feed, 2, (some .int))
def mX9_byteAt : Md := (9, yX9_byteAt, cX9_byteAt, 2, (some .int))
def mX9_next : Md := (9, yX9_next, cX9_next, 3, none)
def mX9_fail : Md := (9, yX9_fail, cX9_fail, 1, none)
def mX9_isLetter : Md := (9, yX9_isLetter, cX9_isLetter, 3, (some .boolean))
def mX9_isWord : Md := (9, yX9_isWord, cX9_isWord, 9, (some .boolean))
def mX9_isSign : Md := (9, yX9_isSign, cX9_isSign, 2, (some .boolean))
def mX9_opens : Md := (9, yX9_opens, cX9_opens, 1, (some .boolean))
def mX9_name : Md := (9, yX9_name, cX9_name, 1, (some .int))
def mX9_atom : Md := (9, yX9_atom, cX9_atom, 2, (some .int))
def mX9_term : Md := (9, yX9_term, cX9_term, 2, (some .int))
def mX9_added : Md := (9, yX9_added, cX9_added, 4, (some .int))
def mX9_not : Md := (9, yX9_not, cX9_not, 4, (some .int))
def mX9_both : Md := (9, yX9_both, cX9_both, 3, (some .int))
def mX9_either : Md := (9, yX9_either, cX9_either, 3, (some .int))
def mX9_part : Md := (9, yX9_part, cX9_part, 3, (some .int))
def mX9_read : Md := (9, yX9_read, cX9_read, 6, (some .int))
def mX9_text : Md := (9, yX9_text, cX9_text, 2, (some .int))
def mX9_force : Md := (9, yX9_force, cX9_force, 3, (some .int))
def mX9_asks : Md := (9, yX9_asks, cX9_asks, 7, (some .int))
def mX9_fits : Md := (9, yX9_fits, cX9_fits, 4, (some .boolean))
def mX9_isLong : Md := (9, yX9_isLong, cX9_isLong, 2, (some .boolean))
def mX9_draws : Md := (9, yX9_draws, cX9_draws, 6, (some .boolean))
def mX9_takesOf : Md := (9, yX9_takesOf, cX9_takesOf, 8, (some .int))
def mX9_nextOf : Md := (9, yX9_nextOf, cX9_nextOf, 6, (some .int))
def mX9_begins : Md := (9, yX9_begins, cX9_begins, 6, none)
def mX9_goes : Md := (9, yX9_goes, cX9_goes, 8, none)
def mX9_setOf : Md := (9, yX9_setOf, cX9_setOf, 4, (some .int))
def mX9_goesAll : Md := (9, yX9_goesAll, cX9_goesAll, 2, none)
def mX9_waitedOf : Md := (9, yX9_waitedOf, cX9_waitedOf, 2, (some .int))
def mX9_badOf : Md := (9, yX9_badOf, cX9_badOf, 3, (some .int))
def mX9_badness : Md := (9, yX9_badness, cX9_badness, 3, (some .int))
def mX9_times : Md := (9, yX9_times, cX9_times, 3, (some .int))
def mX9_pump : Md := (9, yX9_pump, cX9_pump, 4, (some .int))
def mX9_lastOff : Md := (9, yX9_lastOff, cX9_lastOff, 3, (some .int))
def mX9_isAhead : Md := (9, yX9_isAhead, cX9_isAhead, 3, (some .boolean))
def mX9_all : Md := (9, yX9_all, cX9_all, 7, (some .int))
def mX9_lane : Md := (9, yX9_lane, cX9_lane, 7, (some .int))
def mX9_seeks : Md := (9, yX9_seeks, cX9_seeks, 5, none)
def mX9_lanes : Md := (9, yX9_lanes, cX9_lanes, 6, (some .int))
def mX9_when : Md := (9, yX9_when, cX9_when, 8, (some .int))
def mX9_forward : Md := (9, yX9_forward, cX9_forward, 3, (some .int))
def mX9_blame : Md := (9, yX9_blame, cX9_blame, 12, (some .int))
def mX9_unlike : Md := (9, yX9_unlike, cX9_unlike, 4, (some .int))
def mX9_tells : Md := (9, yX9_tells, cX9_tells, 11, (some .int))
def mX9_film : Md := (9, yX9_film, cX9_film, 3, (some .int))
def mX9_drives : Md := (9, yX9_drives, cX9_drives, 5, (some .int))
def mX9_drawn : Md := (9, yX9_drawn, cX9_drawn, 2, (some .int))
def mX9_chance : Md := (9, yX9_chance, cX9_chance, 13, (some .long))
def mX9_image : Md := (9, yX9_image, cX9_image, 2, (some .int))
def mX9_back : Md := (9, yX9_back, cX9_back, 2, (some .int))
def mX9_count : Md := (9, yX9_count, cX9_count, 2, (some .int))
def mX9_isSheet : Md := (9, yX9_isSheet, cX9_isSheet, 1, (some .boolean))
def mX9_sheet : Md := (9, yX9_sheet, cX9_sheet, 5, (some .int))
def mX9_cell : Md := (9, yX9_cell, cX9_cell, 4, (some .int))
def mX9_copy : Md := (9, yX9_copy, cX9_copy, 9, (some .int))
def mX9_cars : Md := (9, yX9_cars, cX9_cars, 8, (some .int))
def mX9_over : Md := (9, yX9_over, cX9_over, 1, (some .int))
def mX9_taken : Md := (9, yX9_taken, cX9_taken, 4, (some .int))
def mJ0_length_8abf5 : Md := (20, yJ0_length_8abf5, cJ0_length_8abf5, 1, (some .int))
def mJ0_charAt_5068e : Md := (20, yJ0_charAt_5068e, cJ0_charAt_5068e, 2, (some .char))
def mJ0_indexOf_0f7a4 : Md := (20, yJ0_indexOf_0f7a4, cJ0_indexOf_0f7a4, 2, (some .int))
def mJ0_indexOf_7cf53 : Md := (20, yJ0_indexOf_7cf53, cJ0_indexOf_7cf53, 3, (some .int))
def mJ0_coder_7d493 : Md := (20, yJ0_coder_7d493, cJ0_coder_7d493, 1, (some .byte))
def mJ0_isLatin1_aae02 : Md := (20, yJ0_isLatin1_aae02, cJ0_isLatin1_aae02, 1, (some .boolean))
def mJ0_checkIndex_df160 : Md := (20, yJ0_checkIndex_df160, cJ0_checkIndex_df160, 2, none)
def mJ0_checkBoundsBeginEnd_23922 : Md := (20, yJ0_checkBoundsBeginEnd_23922, cJ0_checkBoundsBeginEnd_23922, 3, none)
def mJ1_charAt_3b067 : Md := (21, yJ1_charAt_3b067, cJ1_charAt_3b067, 2, (some .char))
def mJ1_canEncode_9a6ad : Md := (21, yJ1_canEncode_9a6ad, cJ1_canEncode_9a6ad, 1, (some .boolean))
def mJ1_indexOf_4cfef : Md := (21, yJ1_indexOf_4cfef, cJ1_indexOf_4cfef, 4, (some .int))
def mJ1_indexOfChar_4cfef : Md := (21, yJ1_indexOfChar_4cfef, cJ1_indexOfChar_4cfef, 6, (some .int))
def mJ3_checkIndex_8e157 : Md := (23, yJ3_checkIndex_8e157, cJ3_checkIndex_8e157, 3, (some .int))
def mJ3_checkFromToIndex_8c36e : Md := (23, yJ3_checkFromToIndex_8c36e, cJ3_checkFromToIndex_8c36e, 4, (some .int))
def mtlT : Nat → List (Nat × (Nat × Nat × Nat × Md)) := fun o => match o with
  | 0 => [(38, (0, 1, 2, mX1_tell)), (44, (0, 1, 3, mX1_put)), (48, (0, 0, 0, mX7_spread)), (53, (0, 1, 0, mX7_playAll)), (57, (0, 1, 1, mX7_off)), (61, (0, 0, 0, mX0_fillLaneBadness)), (64, (0, 1, 0, mX1_size)), (67, (0, 1, 1, mX0_badnessOfWay)), (70, (0, 1, 1, mX0_digits)), (76, (0, 1, 1, mX7_waited)), (79, (0, 1, 1, mX7_share)), (82, (0, 0, 1, mX7_leaveOut)), (86, (0, 1, 2, mX7_playLane)), (89, (0, 1, 2, mX0_laneInWay))]
  | 1 => [(20, (0, 1, 2, mX1_tell)), (24, (0, 1, 1, mX1_has)), (28, (1, 1, 2, mX1_isOne)), (32, (0, 1, 3, mX1_put))]
  | 2 => [(20, (0, 1, 0, mX1_size)), (25, (0, 1, 0, mX5_chosen)), (33, (0, 1, 2, mX1_tell)), (37, (0, 0, 1, mX1_sendAwayFrom)), (41, (0, 1, 1, mX5_choose)), (45, (0, 1, 3, mX1_put))]
  | 4 => [(23, (0, 1, 0, mJ0_length_8abf5)), (29, (0, 1, 1, mJ0_charAt_5068e)), (33, (0, 1, 1, mX4_add)), (40, (0, 0, 0, mX5_beginText)), (45, (0, 0, 0, mX4_step)), (48, (0, 1, 1, mX4_readPart)), (57, (0, 0, 0, mX5_endText)), (60, (0, 0, 1, mX5_beginPart)), (64, (0, 1, 1, mX4_readOr)), (67, (0, 0, 1, mX5_write)), (70, (0, 1, 1, mX4_readAnd)), (73, (0, 1, 1, mX4_readNot)), (76, (0, 1, 1, mX4_readComparison)), (79, (0, 1, 1, mX4_readSum)), (82, (0, 1, 1, mX4_readTerm)), (85, (0, 1, 1, mX4_readOne)), (91, (0, 1, 1, mX4_readNegated)), (94, (0, 1, 1, mX4_readEnclosed)), (97, (0, 1, 1, mX4_isLetter)), (100, (0, 0, 0, mX4_stepWord)), (103, (0, 1, 1, mX4_isDigit)), (106, (0, 0, 0, mX4_stepNumeral)), (111, (0, 1, 1, mJ0_indexOf_0f7a4)), (117, (0, 1, 2, mX4_isSpelled))]
  | 5 => [(33, (0, 1, 1, mX5_has)), (40, (0, 1, 0, mX5_isFull)), (44, (0, 1, 2, mX1_tell)), (50, (1, 1, 3, mX5_joined))]
  | 6 => [(31, (0, 1, 1, mX6_narrow)), (35, (0, 1, 2, mX6_hasRun))]
  | 7 => [(41, (0, 0, 0, mX7_clearLanes)), (44, (0, 1, 0, mX1_size)), (50, (0, 1, 2, mX1_tell)), (54, (0, 0, 2, mX7_join)), (67, (0, 1, 2, mX7_playLane)), (76, (0, 0, 2, mX7_lineUp)), (79, (0, 0, 1, mX7_leave)), (83, (0, 0, 2, mX7_driveUp)), (92, (0, 1, 2, mX7_badness)), (95, (0, 1, 1, mX1_has)), (99, (0, 1, 1, mX7_starts)), (107, (0, 1, 2, mX7_comesBefore)), (111, (0, 1, 1, mX6_item)), (116, (1, 1, 3, mX3_fits)), (122, (0, 1, 6, mX5_ask)), (128, (1, 1, 3, mX3_drawsForward)), (132, (1, 1, 2, mX7_within)), (135, (1, 1, 3, mX3_minutes)), (139, (0, 1, 2, mX7_fits)), (141, (1, 1, 1, mX3_isLong)), (144, (0, 1, 4, mX7_takes)), (148, (0, 1, 3, mX7_drawsForward)), (150, (0, 1, 2, mX7_minds)), (153, (0, 1, 1, mX7_waited))]
  | 8 => [(66, (0, 0, 1, mX4_lay)), (70, (0, 1, 0, mX4_readText)), (74, (0, 0, 0, mX4_empty)), (77, (0, 1, 1, mX1_has)), (85, (0, 1, 3, mX1_put)), (89, (0, 1, 3, mX1_welcome)), (92, (0, 1, 2, mX1_tell)), (96, (0, 1, 2, mX7_fits)), (100, (1, 1, 1, mX3_isLong)), (105, (0, 1, 3, mX7_drawsForward)), (109, (0, 1, 4, mX7_takes)), (113, (0, 1, 2, mX7_minds)), (116, (0, 1, 1, mX4_add)), (119, (0, 1, 0, mX4_size)), (122, (0, 1, 0, mX5_isFull)), (126, (0, 1, 0, mX5_size)), (127, (0, 1, 1, mX5_has)), (128, (0, 1, 1, mX5_choose)), (132, (0, 0, 0, mX7_spread)), (135, (0, 1, 0, mX7_playAll)), (138, (0, 1, 1, mX7_starts)), (141, (0, 1, 1, mX7_off)), (144, (0, 1, 1, mX7_waited)), (147, (0, 1, 1, mX7_place)), (150, (0, 1, 3, mX7_whoIsAt)), (153, (0, 1, 0, mX7_inVain)), (156, (0, 1, 0, mX7_lastOff)), (159, (0, 1, 0, mX7_outOfOrder)), (162, (0, 0, 1, mX0_seekLane)), (166, (0, 1, 1, mX0_answer)), (169, (0, 0, 0, mX0_seekLanes)), (172, (0, 0, 1, mX0_seekMinute)), (175, (0, 0, 1, mX7_sendAllForward)), (179, (0, 0, 0, mX0_seekBlame)), (182, (1, 1, 1, mX8_isSheet)), (185, (0, 1, 0, mX6_isMissing)), (188, (0, 1, 0, mX6_size)), (189, (0, 1, 0, mX1_size)), (190, (0, 1, 3, mX8_likely)), (194, (0, 1, 1, mX8_otherwiseNow)), (198, (0, 1, 1, mX8_likelyTexts)), (201, (0, 0, 2, mX6_become)), (205, (0, 1, 2, mX6_put)), (207, (0, 0, 1, mX7_spreadBySeed)), (212, (1, 1, 2, mX0_commonDivisor)), (215, (0, 0, 2, mX2_take)), (218, (0, 1, 0, mX2_isTaken)), (221, (0, 0, 2, mX2_layBack)), (224, (0, 1, 0, mX5_chosen)), (227, (0, 1, 0, mX6_sort)), (230, (0, 1, 2, mX6_hasRun)), (233, (0, 0, 4, mX6_putRun)), (237, (0, 1, 1, mX6_item)), (240, (1, 1, 2, mX3_isUnder)), (243, (0, 1, 1, mX7_otherwise))]
  | 9 => [(75, (0, 0, 9, mX9_spell)), (85, (1, 1, 3, mX9_in)), (91, (0, 1, 1, mX9_isCar)), (95, (1, 1, 1, mX9_mostOf)), (110, (0, 1, 2, mX9_fits)), (114, (0, 1, 1, mX9_isLong)), (117, (0, 1, 4, mX9_draws)), (121, (0, 1, 4, mX9_takesOf)), (125, (0, 1, 5, mX9_asks)), (143, (0, 1, 1, mX9_byteAt)), (171, (0, 1, 2, mX9_isLetter)), (177, (0, 0, 0, mX9_fail)), (180, (0, 0, 0, mX9_next)), (183, (0, 1, 8, mX9_isWord)), (205, (0, 1, 1, mX9_isSign)), (208, (0, 1, 0, mX9_opens)), (212, (0, 1, 0, mX9_atom)), (216, (0, 1, 0, mX9_either)), (219, (0, 1, 0, mX9_name)), (222, (0, 1, 0, mX9_term)), (227, (0, 1, 0, mX9_not)), (230, (0, 1, 0, mX9_added)), (235, (0, 1, 0, mX9_both)), (238, (0, 1, 1, mX9_part)), (242, (0, 1, 2, mX9_read)), (246, (1, 1, 3, mX9_within)), (253, (0, 1, 3, mX9_nextOf)), (256, (0, 0, 5, mX9_begins)), (260, (0, 1, 1, mX9_setOf)), (263, (0, 0, 2, mX9_goes)), (267, (0, 1, 1, mX9_waitedOf)), (270, (0, 0, 0, mX9_goesAll)), (273, (0, 1, 2, mX9_badOf)), (278, (0, 1, 0, mX9_badness)), (281, (0, 1, 0, mX9_lastOff)), (284, (0, 1, 2, mX9_isAhead)), (293, (0, 0, 2, mX9_seeks)), (296, (1, 1, 1, mX9_isSheet)), (301, (0, 1, 1, mX9_unlike)), (304, (0, 0, 3, mX9_lays)), (308, (0, 1, 3, mX9_sheet)), (312, (0, 1, 1, mX9_drives)), (328, (0, 1, 3, mX9_car)), (331, (1, 1, 1, mX9_over))]
  | 20 => [(335, (0, 1, 0, mJ0_coder_7d493)), (492, (0, 1, 0, mJ0_isLatin1_aae02)), (495, (1, 1, 2, mJ1_charAt_3b067)), (505, (0, 1, 0, mJ0_length_8abf5)), (633, (0, 1, 2, mJ0_indexOf_7cf53)), (637, (1, 1, 4, mJ1_indexOf_4cfef)), (1059, (1, 1, 3, mJ3_checkIndex_8e157)), (1062, (1, 1, 4, mJ3_checkFromToIndex_8c36e))]
  | 21 => [(9, (1, 0, 2, mJ0_checkIndex_df160)), (88, (1, 1, 1, mJ1_canEncode_9a6ad)), (95, (1, 1, 4, mJ1_indexOfChar_4cfef))]
  | 22 => [(241, (1, 0, 3, mJ0_checkBoundsBeginEnd_23922)), (414, (1, 0, 2, mJ0_checkIndex_df160))]
  | _ => []
def mtl (o i : Nat) : Option ((Nat × Nat × Nat × Md)) := (mtlT o).lookup i
def aclT : Nat → List (Nat × Nat) := fun o => match o with
  | 6 => [(22, 2), (28, 1), (39, 0)]
  | 7 => [(102, 1), (156, 2)]
  | 21 => [(38, 2), (92, 1)]
  | _ => []
def acl (o i : Nat) : Option (Nat) := (aclT o).lookup i
def jmp (pc : Nat) (off : Int) : Option Nat := match (pc : Int) + off with | .ofNat t => some t | .negSucc _ => none
def setL (ls : List PV) (i : Nat) (v : PV) : List PV := ls.set i v
def cat : PV → Nat
  | .inl _ => 1
  | .inr (.inl _) => 1
  | .inr (.inr _) => 2
def catS (l : List PV) : Nat := (l.map cat).sum
def cst (n : Int) : Bool := match n with | .ofNat k => Nat.blt k 32768 | .negSucc k => Nat.blt k 32768
def cst8 (n : Int) : Bool := match n with | .ofNat k => Nat.blt k 128 | .negSucc k => Nat.blt k 128
def sPush (v : PV) (len : Nat) : Cfg → Option Out
  | (pc, ls, st, σ) => some (.inl (pc + len, ls, v :: st, σ))
def sIcon (n : Int) (len : Nat) (c : Cfg) : Option Out := match cst n with | true => sPush (.inl n) len c | false => none
def sIcon8 (n : Int) (len : Nat) (c : Cfg) : Option Out := match cst8 n with | true => sPush (.inl n) len c | false => none
def sIload (k len : Nat) : Cfg → Option Out
  | (pc, ls, st, σ) => (match ls[k]? with | some (.inl x) => some (.inl (pc + len, ls, .inl x :: st, σ)) | _ => none)
def sLload (k len : Nat) : Cfg → Option Out
  | (pc, ls, st, σ) => (match ls[k]?, ls[k + 1]? with | some (.inr (.inr x)), some (.inr (.inl (998, 0))) => some (.inl (pc + len, ls, .inr (.inr x) :: st, σ)) | _, _ => none)
def sAload (k len : Nat) : Cfg → Option Out
  | (pc, ls, st, σ) => (match ls[k]? with | some (.inr (.inl (q, j))) => (match Nat.blt q 61 with | true => some (.inl (pc + len, ls, .inr (.inl (q, j)) :: st, σ)) | false => none) | _ => none)
def sIstore (k len : Nat) : Cfg → Option Out
  | (pc, ls, .inl x :: st, σ) => (match Nat.blt k ls.length with | true => some (.inl (pc + len, setL ls k (.inl x), st, σ)) | false => none)
  | _ => none
def sAstore (k len : Nat) : Cfg → Option Out
  | (pc, ls, .inr (.inl (q, j)) :: st, σ) => (match Nat.blt q 61, Nat.blt k ls.length with | true, true => some (.inl (pc + len, setL ls k (.inr (.inl (q, j))), st, σ)) | _, _ => none)
  | _ => none
def sLstore (k len : Nat) : Cfg → Option Out
  | (pc, ls, .inr (.inr x) :: st, σ) => (match Nat.blt (k + 1) ls.length with | true => some (.inl (pc + len, (setL ls k (.inr (.inr x))).set (k + 1) SEC, st, σ)) | false => none)
  | _ => none
def sIinc (k : Nat) (n : Int) : Cfg → Option Out
  | (pc, ls, st, σ) => (match ls[k]?, cst n with
    | some (.inl x), true => some (.inl (pc + 3, setL ls k (.inl (w32 (x + n))), st, σ))
    | _, _ => none)
def sBin (f : Int → Int → Int) : Cfg → Option Out
  | (pc, ls, .inl b :: .inl a :: st, σ) => some (.inl (pc + 1, ls, .inl (f a b) :: st, σ))
  | _ => none
def sDiv (f : Int → Int → Int) : Cfg → Option Out
  | (pc, ls, .inl b :: .inl a :: st, σ) => if b = 0 then none else some (.inl (pc + 1, ls, .inl (f a b) :: st, σ))
  | _ => none
def sUn (f : Int → Int) : Cfg → Option Out
  | (pc, ls, .inl a :: st, σ) => some (.inl (pc + 1, ls, .inl (f a) :: st, σ))
  | _ => none
def sLbin (f : Int → Int → Int) : Cfg → Option Out
  | (pc, ls, .inr (.inr b) :: .inr (.inr a) :: st, σ) => some (.inl (pc + 1, ls, .inr (.inr (f a b)) :: st, σ))
  | _ => none
def sLdiv (f : Int → Int → Int) : Cfg → Option Out
  | (pc, ls, .inr (.inr b) :: .inr (.inr a) :: st, σ) => if b = 0 then none else some (.inl (pc + 1, ls, .inr (.inr (f a b)) :: st, σ))
  | _ => none
def sLcmp : Cfg → Option Out
  | (pc, ls, .inr (.inr b) :: .inr (.inr a) :: st, σ) => some (.inl (pc + 1, ls, .inl (wlcmp a b) :: st, σ))
  | _ => none
def sI2l : Cfg → Option Out
  | (pc, ls, .inl a :: st, σ) => some (.inl (pc + 1, ls, .inr (.inr a) :: st, σ))
  | _ => none
def sL2i : Cfg → Option Out
  | (pc, ls, .inr (.inr a) :: st, σ) => some (.inl (pc + 1, ls, .inl (wl2i a) :: st, σ))
  | _ => none
def sBr (k : Jvm.ClassFile.Cond) (x y : Int) (A B : Option Out) : Option Out := match k with
  | .eq => if x = y then A else B
  | .ne => if x = y then B else A
  | .lt => if x < y then A else B
  | .ge => if x < y then B else A
  | .gt => if y < x then A else B
  | .le => if y < x then B else A
def sTo (pc : Nat) (off : Int) (ls st : List PV) (σ : Sg) : Option Out := match jmp pc off with | some t => some (.inl (t, ls, st, σ)) | none => none
def sGo (off : Int) : Cfg → Option Out
  | (pc, ls, st, σ) => sTo pc off ls st σ
def sIf (k : Jvm.ClassFile.Cond) (off : Int) : Cfg → Option Out
  | (pc, ls, .inl a :: st, σ) => (match (jmp pc off).isSome with | true => sBr k a 0 (sTo pc off ls st σ) (some (.inl (pc + 3, ls, st, σ))) | false => none)
  | _ => none
def sIcmp (k : Jvm.ClassFile.Cond) (off : Int) : Cfg → Option Out
  | (pc, ls, .inl b :: .inl a :: st, σ) => (match (jmp pc off).isSome with | true => sBr k a b (sTo pc off ls st σ) (some (.inl (pc + 3, ls, st, σ))) | false => none)
  | _ => none
def sTab (k : Int → Option Out) (x dflt : Int) : Int → List Int → Option Out
  | _, [] => k dflt
  | lo, o :: os => if x = lo then k o else sTab k x dflt (lo + 1) os
def sSw (dflt lo hi : Int) (offs : Array Int) : Cfg → Option Out
  | (pc, ls, .inl x :: st, σ) => (match decide (lo + (offs.toList.length : Int) = hi + 1) with | true => sTab (fun o => sTo pc o ls st σ) x dflt lo offs.toList | false => none)
  | _ => none
def sDup : Cfg → Option Out
  | (pc, ls, .inl a :: st, σ) => some (.inl (pc + 1, ls, .inl a :: .inl a :: st, σ))
  | (pc, ls, .inr (.inl a) :: st, σ) => some (.inl (pc + 1, ls, .inr (.inl a) :: .inr (.inl a) :: st, σ))
  | _ => none
def sPop : Cfg → Option Out
  | (pc, ls, .inl _ :: st, σ) => some (.inl (pc + 1, ls, st, σ))
  | _ => none
def sDupx1 : Cfg → Option Out
  | (pc, ls, .inl a :: .inl b :: st, σ) => some (.inl (pc + 1, ls, .inl a :: .inl b :: .inl a :: st, σ))
  | (pc, ls, .inl a :: .inr (.inl b) :: st, σ) => some (.inl (pc + 1, ls, .inl a :: .inr (.inl b) :: .inl a :: st, σ))
  | _ => none
def sDup2 : Cfg → Option Out
  | (pc, ls, .inl a :: .inr (.inl b) :: st, σ) => some (.inl (pc + 1, ls, .inl a :: .inr (.inl b) :: .inl a :: .inr (.inl b) :: st, σ))
  | _ => none
def sGet (own idx : Nat) : Cfg → Option Out
  | (pc, ls, .inr (.inl (c, j)) :: st, σ) => (match ftl own idx with
    | some (ci, k) => (match Nat.beq (kd c) (10 + ci), fk ci k with
      | true, 0 => some (.inl (pc + 3, ls, .inl (rd σ c j k) :: st, σ))
      | true, 2 => some (.inl (pc + 3, ls, .inl (rd σ c j k) :: st, σ))
      | true, 1 => some (.inl (pc + 3, ls, .inr (.inr (rd σ c j k)) :: st, σ))
      | true, 3 => some (.inl (pc + 3, ls, .inr (.inl (rf c k, j)) :: st, σ))
      | _, _ => none)
    | none => none)
  | _ => none
def sPut (own idx : Nat) : Cfg → Option Out
  | (pc, ls, .inl x :: .inr (.inl (c, j)) :: st, σ) => (match ftl own idx with
    | some (ci, k) => (match Nat.blt c 52, Nat.beq (kd c) (10 + ci), fk ci k with
      | true, true, 0 => some (.inl (pc + 3, ls, st, up σ c j k x))
      | true, true, 2 => if 0 ≤ x ∧ x ≤ 1 then some (.inl (pc + 3, ls, st, up σ c j k x)) else none
      | _, _, _ => none)
    | none => none)
  | (pc, ls, .inr (.inr x) :: .inr (.inl (c, j)) :: st, σ) => (match ftl own idx with
    | some (ci, k) => (match Nat.blt c 52, Nat.beq (kd c) (10 + ci), fk ci k with
      | true, true, 1 => some (.inl (pc + 3, ls, st, up σ c j k x))
      | _, _, _ => none)
    | none => none)
  | _ => none
def sIald : Cfg → Option Out
  | (pc, ls, .inl i :: .inr (.inl (c, j)) :: st, σ) => (match kd c with
    | 0 => if inb i (ln c) then some (.inl (pc + 1, ls, .inl (rd σ c j i.toNat) :: st, σ)) else none
    | _ => none)
  | _ => none
def sBald : Cfg → Option Out
  | (pc, ls, .inl i :: .inr (.inl (c, j)) :: st, σ) => (match kd c with
    | 1 => if inb i (ln c) then some (.inl (pc + 1, ls, .inl (rd σ c j i.toNat) :: st, σ)) else none
    | 4 => if inb i (ln c) then some (.inl (pc + 1, ls, .inl (rd σ c j i.toNat) :: st, σ)) else none
    | _ => none)
  | _ => none
def sAald : Cfg → Option Out
  | (pc, ls, .inl i :: .inr (.inl (c, _)) :: st, σ) => (match kd c with
    | 2 => if inb i (ln c) then some (.inl (pc + 1, ls, .inr (.inl (rf c 0, i.toNat)) :: st, σ)) else none
    | 3 => if inb i (ln c) then some (.inl (pc + 1, ls, .inr (.inl (rf c 0, i.toNat)) :: st, σ)) else none
    | _ => none)
  | _ => none
def sIast : Cfg → Option Out
  | (pc, ls, .inl x :: .inl i :: .inr (.inl (c, j)) :: st, σ) => (match Nat.blt c 52, kd c with
    | true, 0 => if inb i (ln c) then some (.inl (pc + 1, ls, st, up σ c j i.toNat x)) else none
    | _, _ => none)
  | _ => none
def sBast : Cfg → Option Out
  | (pc, ls, .inl x :: .inl i :: .inr (.inl (c, j)) :: st, σ) => (match Nat.blt c 52, kd c with
    | true, 1 => if 0 ≤ x ∧ x ≤ 1 then (if inb i (ln c) then some (.inl (pc + 1, ls, st, up σ c j i.toNat x)) else none) else none
    | _, _ => none)
  | _ => none
def sAlen : Cfg → Option Out
  | (pc, ls, .inr (.inl (c, _)) :: st, σ) => (match kd c with
    | 0 => some (.inl (pc + 1, ls, .inl (ln c : Int) :: st, σ))
    | 4 => some (.inl (pc + 1, ls, .inl (ln c : Int) :: st, σ))
    | _ => none)
  | _ => none
def cpyS (σ : Sg) (c j c2 j2 sp dp n : Nat) : Sg := fun c' j' i => if c' = c2 ∧ j' = j2 ∧ dp ≤ i ∧ i < dp + n then σ c j (sp + (i - dp)) else σ c' j' i
def sCopy : Cfg → Option Out
  | (pc, ls, .inl n :: .inl dp :: .inr (.inl (c2, j2)) :: .inl sp :: .inr (.inl (c, j)) :: st, σ) => (match Nat.blt c 52, Nat.blt c2 52, kd c, kd c2, Nat.ble (catS st) 8 with
    | true, true, 0, 0, true => if 0 ≤ sp ∧ 0 ≤ dp ∧ 0 ≤ n ∧ sp + n ≤ (ln c : Int) ∧ dp + n ≤ (ln c2 : Int) then some (.inl (pc + 3, ls, st, cpyS σ c j c2 j2 sp.toNat dp.toNat n.toNat)) else none
    | _, _, _, _, _ => none)
  | _ => none
def sCon (own idx len : Nat) (c : Cfg) : Option Out := match lcl own idx with
  | some n => sPush (.inl n) len c
  | none => (match lsl own idx with | some s => sPush (.inr (.inl (s, 0))) len c | none => none)
def slots : List PV → List PV
  | [] => []
  | .inl x :: l => .inl x :: slots l
  | .inr (.inl x) :: l => .inr (.inl x) :: slots l
  | .inr (.inr x) :: l => .inr (.inr x) :: SEC :: slots l
def sCall (vs own idx : Nat) : Cfg → Option Out
  | (pc, ls, st, σ) => (match mtl own idx with
    | some (v, rk, n, M) => (match Nat.beq v vs, v with
      | true, 1 => (match Nat.ble n st.length, Nat.ble (catS (st.drop n)) 8, Nat.ble (slots (st.take n).reverse).length M.2.2.2.1 with | true, true, true => some (.inr (.inl (rk, M, (st.take n).reverse, (pc + 3, ls, st.drop n, σ)))) | _, _, _ => none)
      | true, 0 => (match (st.drop n) with
        | .inr (.inl (c, j)) :: st' => (match Nat.beq (kd c) (10 + M.1), Nat.ble (catS st') 8, Nat.ble (slots (.inr (.inl (c, j)) :: (st.take n).reverse)).length M.2.2.2.1 with | true, true, true => some (.inr (.inl (rk, M, .inr (.inl (c, j)) :: (st.take n).reverse, (pc + 3, ls, st', σ)))) | _, _, _ => none)
        | _ => none)
      | _, _ => none)
    | none => none)
def wmax (x y : Int) : Int := if x < y then y else x
def wmin (x y : Int) : Int := if y < x then y else x
def sMath (f : Int → Int → Int) : Cfg → Option Out
  | (pc, ls, .inl b :: .inl a :: st, σ) => (match Nat.ble (catS st) 8 with | true => some (.inl (pc + 3, ls, .inl (f a b) :: st, σ)) | false => none)
  | _ => none
def sStat (own idx : Nat) (c : Cfg) : Option Out := match acl own idx with
  | some 0 => sCopy c
  | some 1 => sMath wmax c
  | some 2 => sMath wmin c
  | some _ => none
  | none => sCall 1 own idx c
def sIret (rt : Option FieldType) : Cfg → Option Out
  | (_, _, .inl x :: [], σ) => (match rt with
    | some .int => some (.inr (.inr (some (.inl x), σ)))
    | some .boolean => if 0 ≤ x ∧ x ≤ 1 then some (.inr (.inr (some (.inl x), σ))) else none
    | some .char => if 0 ≤ x ∧ x ≤ 65535 then some (.inr (.inr (some (.inl x), σ))) else none
    | some .byte => if -128 ≤ x ∧ x ≤ 127 then some (.inr (.inr (some (.inl x), σ))) else none
    | _ => none)
  | _ => none
def sLret (rt : Option FieldType) : Cfg → Option Out
  | (_, _, .inr (.inr x) :: [], σ) => (match rt with | some .long => some (.inr (.inr (some (.inr (.inr x)), σ))) | _ => none)
  | _ => none
def sVret (rt : Option FieldType) : Cfg → Option Out
  | (_, _, [], σ) => (match rt with | none => some (.inr (.inr (none, σ))) | _ => none)
  | _ => none
def lenOf (i : Instr) : Nat := match i with
  | .bipush _ => 2
  | .sipush _ => 3
  | .ldc _ => 2
  | .ldc_w _ => 3
  | .ldc2_w _ => 3
  | .iload _ => 2
  | .lload _ => 2
  | .aload _ => 2
  | .istore _ => 2
  | .lstore _ => 2
  | .astore _ => 2
  | .iinc _ _ => 3
  | .ifCond _ _ => 3
  | .if_icmp _ _ => 3
  | .goto _ => 3
  | .tableswitch _ _ _ _ => 0
  | .getfield _ => 3
  | .putfield _ => 3
  | .getstatic _ => 3
  | .invokevirtual _ => 3
  | .invokestatic _ => 3
  | _ => 1
def stpJ (own : Nat) (rt : Option FieldType) (i : Instr) (len : Nat) (c : Cfg) : Option Out := match i with
  | .iconst n => sIcon n len c
  | .bipush n => sIcon8 n len c
  | .sipush n => sIcon n len c
  | .lconst n => sPush (.inr (.inr ((n : Nat) : Int))) len c
  | .ldc k => sCon own k len c
  | .ldc_w k => (match lcl own k with | some n => sPush (.inl n) len c | none => none)
  | .ldc2_w k => (match lll own k with | some n => sPush (.inr (.inr n)) len c | none => none)
  | .iload_n k => sIload k len c
  | .iload k => sIload k len c
  | .lload_n k => sLload k len c
  | .lload k => sLload k len c
  | .aload_n k => sAload k len c
  | .aload k => sAload k len c
  | .istore_n k => sIstore k len c
  | .istore k => sIstore k len c
  | .lstore k => sLstore k len c
  | .astore_n k => sAstore k len c
  | .astore k => sAstore k len c
  | .iinc k n => sIinc k n c
  | .iadd => sBin (fun a b => w32 (a + b)) c
  | .isub => sBin (fun a b => w32 (a - b)) c
  | .imul => sBin (fun a b => w32 (a * b)) c
  | .idiv => sDiv wdiv c
  | .irem => sDiv wrem c
  | .ineg => sUn (fun a => w32 (-a)) c
  | .iand => sBin wand c
  | .ior => sBin wor c
  | .ixor => sBin wxor c
  | .ishl => sBin wshl c
  | .ishr => sBin wshr c
  | .iushr => sBin wush c
  | .i2b => sUn wi2b c
  | .i2s => sUn wi2s c
  | .i2c => sUn wi2c c
  | .i2l => sI2l c
  | .l2i => sL2i c
  | .ladd => sLbin (fun a b => w64 (a + b)) c
  | .lsub => sLbin (fun a b => w64 (a - b)) c
  | .lmul => sLbin (fun a b => w64 (a * b)) c
  | .ldiv => sLdiv wldiv c
  | .lrem => sLdiv wlrem c
  | .lcmp => sLcmp c
  | .ifCond k off => sIf k off c
  | .if_icmp k off => sIcmp k off c
  | .goto off => sGo off c
  | .tableswitch d lo hi offs => sSw d lo hi offs c
  | .dup => sDup c
  | .dup_x1 => sDupx1 c
  | .dup2 => sDup2 c
  | .pop => sPop c
  | .getfield k => sGet own k c
  | .putfield k => sPut own k c
  | .getstatic k => (match gtl own k with | some v => sPush v len c | none => none)
  | .iaload => sIald c
  | .baload => sBald c
  | .aaload => sAald c
  | .iastore => sIast c
  | .bastore => sBast c
  | .arraylength => sAlen c
  | .invokevirtual k => sCall 0 own k c
  | .invokestatic k => sStat own k c
  | .ireturn => sIret rt c
  | .lreturn => sLret rt c
  | .return_ => sVret rt c
  | _ => none
def stpI (own : Nat) (rt : Option FieldType) (i : Instr) (len : Nat) (c : Cfg) : Option Out := match Nat.beq (lenOf i) len || Nat.beq (lenOf i) 0 with | true => stpJ own rt i len c | false => none
def stp (M : Md) (c : Cfg) : Option Out := match decode M.2.2.1 c.1 with | .ok (i, len) => stpI M.1 M.2.2.2.2 i len c | .error _ => none
def padL (n : Nat) (l : List PV) : List PV := l ++ List.replicate (n - l.length) UU
def entry (M : Md) (as : List PV) (σ : Sg) : Cfg := (0, padL M.2.2.2.1 (slots as), [], σ)
def rsm (rk : Nat) (c : Cfg) (r : Option PV) (σ : Sg) : Option Cfg := match rk, r with
  | 0, none => some (c.1, c.2.1, c.2.2.1, σ)
  | 1, some (.inl x) => some (c.1, c.2.1, .inl x :: c.2.2.1, σ)
  | 2, some (.inr (.inr x)) => some (c.1, c.2.1, .inr (.inr x) :: c.2.2.1, σ)
  | _, _ => none
def ev : Nat → Nat → Md → Cfg → Rs
  | 0, _, _, _ => none
  | n + 1, d, M, c => match stp M c with
    | none => none
    | some (.inl c') => ev n d M c'
    | some (.inr (.inl q)) => (match d with
      | 0 => none
      | d' + 1 => (match ev n d' q.2.1 (entry q.2.1 q.2.2.1 q.2.2.2.2.2.2) with
        | none => none
        | some r => (match rsm q.1 q.2.2.2 r.1 r.2 with
          | none => none
          | some c' => ev n (d' + 1) M c')))
    | some (.inr (.inr r)) => some r
