/-! names of the classes, their fields; lists of links, each held against the tables by its place -/
def kT_0 : u_T := fun k => match k with
  | 0 => ("MenOnCradles$Drop", "tower", "I", false)
  | 1 => ("MenOnCradles$Drop", "side", "I", false)
  | 2 => ("MenOnCradles$Drop", "stop", "I", false)
  | 3 => ("MenOnCradles$Drop", "floors", "I", false)
  | 4 => ("MenOnCradles$Drop", "day", "I", false)
  | 5 => ("MenOnCradles$Drop", "hour", "I", false)
  | 6 => ("MenOnCradles$Drop", "hours", "I", false)
  | 7 => ("MenOnCradles$Drop", "rate", "I", false)
  | 8 => ("MenOnCradles$Drop", "one", "I", false)
  | 9 => ("MenOnCradles$Drop", "other", "I", false)
  | 10 => ("MenOnCradles$Drop", "oneDrill", "I", false)
  | 11 => ("MenOnCradles$Drop", "otherDrill", "I", false)
  | 12 => ("MenOnCradles$Drop", "panes", "I", false)
  | 13 => ("MenOnCradles$Drop", "worn", "I", false)
  | 14 => ("MenOnCradles$Drop", "age", "I", false)
  | 15 => ("MenOnCradles$Drop", "wear", "I", false)
  | 16 => ("MenOnCradles$Drop", "price", "I", false)
  | 17 => ("MenOnCradles$Drop", "water", "I", false)
  | _ => ("MenOnCradles$Drop", "reached", "J", false)
def kF_0 : Nat → FieldType := fun k => match k with
  | 0 => .int
  | 1 => .int
  | 2 => .int
  | 3 => .int
  | 4 => .int
  | 5 => .int
  | 6 => .int
  | 7 => .int
  | 8 => .int
  | 9 => .int
  | 10 => .int
  | 11 => .int
  | 12 => .int
  | 13 => .int
  | 14 => .int
  | 15 => .int
  | 16 => .int
  | 17 => .int
  | _ => .long
def kT_1 : u_T := fun k => match k with
  | 0 => ("MenOnCradles$KeyBook", "size", "I", false)
  | 1 => ("MenOnCradles$KeyBook", "towerOf", "[I", true)
  | 2 => ("MenOnCradles$KeyBook", "personOf", "[I", true)
  | 3 => ("MenOnCradles$KeyBook", "hourOf", "[I", true)
  | _ => ("MenOnCradles$KeyBook", "isTaken", "[Z", true)
def kF_1 : Nat → FieldType := fun k => match k with
  | 0 => .int
  | 1 => .array .int
  | 2 => .array .int
  | 3 => .array .int
  | _ => .array .boolean
def kT_2 : u_T := fun k => match k with
  | 0 => ("MenOnCradles$Marks", "dropsThen", "[I", true)
  | 1 => ("MenOnCradles$Marks", "wornThen", "[I", true)
  | 2 => ("MenOnCradles$Marks", "laid", "[I", true)
  | _ => ("MenOnCradles$Marks", "layings", "I", false)
def kF_2 : Nat → FieldType := fun k => match k with
  | 0 => .array .int
  | 1 => .array .int
  | 2 => .array .int
  | _ => .int
def kT_3 : u_T := fun k => match k with
  | 0 => ("MenOnCradles$People", "drilled", "[I", true)
  | 1 => ("MenOnCradles$People", "partner", "[I", true)
  | 2 => ("MenOnCradles$People", "pairedSum", "I", false)
  | 3 => ("MenOnCradles$People", "elders", "I", false)
  | 4 => ("MenOnCradles$People", "together", "[I", true)
  | 5 => ("MenOnCradles$People", "awayWeeks", "[I", true)
  | 6 => ("MenOnCradles$People", "elderList", "[I", true)
  | 7 => ("MenOnCradles$People", "otherList", "[I", true)
  | 8 => ("MenOnCradles$People", "best", "[I", true)
  | 9 => ("MenOnCradles$People", "weeksDone", "[I", true)
  | 10 => ("MenOnCradles$People", "lastWeek", "[I", true)
  | 11 => ("MenOnCradles$People", "elderSize", "I", false)
  | 12 => ("MenOnCradles$People", "otherSize", "I", false)
  | _ => ("MenOnCradles$People", "isPaired", "Z", false)
def kF_3 : Nat → FieldType := fun k => match k with
  | 0 => .array .int
  | 1 => .array .int
  | 2 => .int
  | 3 => .int
  | 4 => .array .int
  | 5 => .array .int
  | 6 => .array .int
  | 7 => .array .int
  | 8 => .array .int
  | 9 => .array .int
  | 10 => .array .int
  | 11 => .int
  | 12 => .int
  | _ => .boolean
def kT_4 : u_T := fun k => match k with
  | 0 => ("MenOnCradles$Planner", "size", "I", false)
  | 1 => ("MenOnCradles$Planner", "fixedWorth", "J", false)
  | 2 => ("MenOnCradles$Planner", "cameWorth", "J", false)
  | 3 => ("MenOnCradles$Planner", "fixedRow", "I", false)
  | 4 => ("MenOnCradles$Planner", "most", "I", false)
  | 5 => ("MenOnCradles$Planner", "sideOf", "[I", true)
  | 6 => ("MenOnCradles$Planner", "worthOf", "[I", true)
  | 7 => ("MenOnCradles$Planner", "order", "[I", true)
  | 8 => ("MenOnCradles$Planner", "chances", "[I", true)
  | 9 => ("MenOnCradles$Planner", "cameTens", "[I", true)
  | 10 => ("MenOnCradles$Planner", "known", "[J", true)
  | 11 => ("MenOnCradles$Planner", "worthOnDays", "[J", true)
  | 12 => ("MenOnCradles$Planner", "odds", "[J", true)
  | 13 => ("MenOnCradles$Planner", "worthOfTimes", "[I", true)
  | 14 => ("MenOnCradles$Planner", "bestRow", "I", false)
  | _ => ("MenOnCradles$Planner", "bestRowWorth", "J", false)
def kF_4 : Nat → FieldType := fun k => match k with
  | 0 => .int
  | 1 => .long
  | 2 => .long
  | 3 => .int
  | 4 => .int
  | 5 => .array .int
  | 6 => .array .int
  | 7 => .array .int
  | 8 => .array .int
  | 9 => .array .int
  | 10 => .array .long
  | 11 => .array .long
  | 12 => .array .long
  | 13 => .array .int
  | 14 => .int
  | _ => .long
def kT_5 : u_T := fun k => match k with
  | 0 => ("MenOnCradles$Reader", "size", "I", false)
  | 1 => ("MenOnCradles$Reader", "signs", "[C", true)
  | 2 => ("MenOnCradles$Reader", "tokens", "[I", true)
  | 3 => ("MenOnCradles$Reader", "places", "[I", true)
  | 4 => ("MenOnCradles$Reader", "next", "I", false)
  | 5 => ("MenOnCradles$Reader", "last", "I", false)
  | 6 => ("MenOnCradles$Reader", "at", "I", false)
  | 7 => ("MenOnCradles$Reader", "token", "I", false)
  | 8 => ("MenOnCradles$Reader", "fault", "I", false)
  | _ => ("MenOnCradles$Reader", "toldOnce", "I", false)
def kF_5 : Nat → FieldType := fun k => match k with
  | 0 => .int
  | 1 => .array .char
  | 2 => .array .int
  | 3 => .array .int
  | 4 => .int
  | 5 => .int
  | 6 => .int
  | 7 => .int
  | 8 => .int
  | _ => .int
def kT_6 : u_T := fun k => match k with
  | 0 => ("MenOnCradles$Rule", "stops", "I", false)
  | 1 => ("MenOnCradles$Rule", "quiets", "I", false)
  | 2 => ("MenOnCradles$Rule", "rate", "I", false)
  | 3 => ("MenOnCradles$Rule", "drillDays", "I", false)
  | 4 => ("MenOnCradles$Rule", "keys", "Z", false)
  | 5 => ("MenOnCradles$Rule", "steps", "[I", true)
  | 6 => ("MenOnCradles$Rule", "begin", "[I", true)
  | 7 => ("MenOnCradles$Rule", "end", "[I", true)
  | 8 => ("MenOnCradles$Rule", "stack", "[I", true)
  | _ => ("MenOnCradles$Rule", "length", "I", false)
def kF_6 : Nat → FieldType := fun k => match k with
  | 0 => .int
  | 1 => .int
  | 2 => .int
  | 3 => .int
  | 4 => .boolean
  | 5 => .array .int
  | 6 => .array .int
  | 7 => .array .int
  | 8 => .array .int
  | _ => .int
def kT_7 : u_T := fun k => match k with
  | 0 => ("MenOnCradles$Shop", "cost", "[I", true)
  | 1 => ("MenOnCradles$Shop", "fits", "[I", true)
  | _ => ("MenOnCradles$Shop", "many", "[I", true)
def kF_7 : Nat → FieldType := fun k => match k with
  | 0 => .array .int
  | 1 => .array .int
  | _ => .array .int
def kT_8 : u_T := fun k => match k with
  | 0 => ("MenOnCradles$Spans", "place", "[I", true)
  | 1 => ("MenOnCradles$Spans", "fromDay", "[I", true)
  | 2 => ("MenOnCradles$Spans", "fromHour", "[I", true)
  | 3 => ("MenOnCradles$Spans", "toDay", "[I", true)
  | 4 => ("MenOnCradles$Spans", "toHour", "[I", true)
  | _ => ("MenOnCradles$Spans", "size", "I", false)
def kF_8 : Nat → FieldType := fun k => match k with
  | 0 => .array .int
  | 1 => .array .int
  | 2 => .array .int
  | 3 => .array .int
  | 4 => .array .int
  | _ => .int
def kT_9 : u_T := fun k => match k with
  | 0 => ("MenOnCradles$Tower", "floors", "I", true)
  | 1 => ("MenOnCradles$Tower", "columns", "I", true)
  | 2 => ("MenOnCradles$Tower", "width", "I", false)
  | 3 => ("MenOnCradles$Tower", "life", "I", false)
  | 4 => ("MenOnCradles$Tower", "worn", "I", false)
  | 5 => ("MenOnCradles$Tower", "blocked", "[I", true)
  | _ => ("MenOnCradles$Tower", "shut", "[I", true)
def kF_9 : Nat → FieldType := fun k => match k with
  | 0 => .int
  | 1 => .int
  | 2 => .int
  | 3 => .int
  | 4 => .int
  | 5 => .array .int
  | _ => .array .int
def kT_10 : u_T := fun k => match k with
  | 0 => ("MenOnCradles", "towers", "[LMenOnCradles$Tower;", true)
  | 1 => ("MenOnCradles", "winds", "[I", true)
  | 2 => ("MenOnCradles", "nests", "LMenOnCradles$Spans;", true)
  | 3 => ("MenOnCradles", "leaves", "LMenOnCradles$Spans;", true)
  | 4 => ("MenOnCradles", "films", "LMenOnCradles$Spans;", true)
  | 5 => ("MenOnCradles", "complaints", "LMenOnCradles$Spans;", true)
  | 6 => ("MenOnCradles", "people", "LMenOnCradles$People;", true)
  | 7 => ("MenOnCradles", "reader", "LMenOnCradles$Reader;", true)
  | 8 => ("MenOnCradles", "keyBook", "LMenOnCradles$KeyBook;", true)
  | 9 => ("MenOnCradles", "planner", "LMenOnCradles$Planner;", true)
  | 10 => ("MenOnCradles", "shop", "LMenOnCradles$Shop;", true)
  | 11 => ("MenOnCradles", "marks", "LMenOnCradles$Marks;", true)
  | 12 => ("MenOnCradles", "facts", "[I", true)
  | 13 => ("MenOnCradles", "drops", "[LMenOnCradles$Drop;", true)
  | 14 => ("MenOnCradles", "rowParts", "[I", true)
  | 15 => ("MenOnCradles", "inForce", "LMenOnCradles$Rule;", false)
  | 16 => ("MenOnCradles", "draft", "LMenOnCradles$Rule;", false)
  | 17 => ("MenOnCradles", "dropCount", "I", false)
  | _ => ("MenOnCradles", "rowCount", "I", false)
def kF_10 : Nat → FieldType := fun k => match k with
  | 0 => .array (.object "MenOnCradles$Tower")
  | 1 => .array .int
  | 2 => .object "MenOnCradles$Spans"
  | 3 => .object "MenOnCradles$Spans"
  | 4 => .object "MenOnCradles$Spans"
  | 5 => .object "MenOnCradles$Spans"
  | 6 => .object "MenOnCradles$People"
  | 7 => .object "MenOnCradles$Reader"
  | 8 => .object "MenOnCradles$KeyBook"
  | 9 => .object "MenOnCradles$Planner"
  | 10 => .object "MenOnCradles$Shop"
  | 11 => .object "MenOnCradles$Marks"
  | 12 => .array .int
  | 13 => .array (.object "MenOnCradles$Drop")
  | 14 => .array .int
  | 15 => .object "MenOnCradles$Rule"
  | 16 => .object "MenOnCradles$Rule"
  | 17 => .int
  | _ => .int
def kT_11 : u_T := fun k => match k with
  | 0 => ("MenOnCradlesModel", "thrown", "I", false)
  | 1 => ("MenOnCradlesModel", "tape", "[I", true)
  | 2 => ("MenOnCradlesModel", "taped", "I", false)
  | 3 => ("MenOnCradlesModel", "size", "I", false)
  | 4 => ("MenOnCradlesModel", "sort", "[I", true)
  | 5 => ("MenOnCradlesModel", "place", "[I", true)
  | 6 => ("MenOnCradlesModel", "value", "[J", true)
  | 7 => ("MenOnCradlesModel", "at", "I", false)
  | 8 => ("MenOnCradlesModel", "fault", "I", false)
  | 9 => ("MenOnCradlesModel", "words", "[J", true)
  | 10 => ("MenOnCradlesModel", "floorsOf", "[I", true)
  | 11 => ("MenOnCradlesModel", "columnsOf", "[I", true)
  | 12 => ("MenOnCradlesModel", "isBlocked", "[Z", true)
  | 13 => ("MenOnCradlesModel", "washedOn", "[I", true)
  | 14 => ("MenOnCradlesModel", "isShut", "[Z", true)
  | 15 => ("MenOnCradlesModel", "widthOf", "[I", true)
  | 16 => ("MenOnCradlesModel", "lifeOf", "[I", true)
  | 17 => ("MenOnCradlesModel", "wornOf", "[I", true)
  | 18 => ("MenOnCradlesModel", "nests", "I", false)
  | 19 => ("MenOnCradlesModel", "nestPane", "[I", true)
  | 20 => ("MenOnCradlesModel", "nestFrom", "[I", true)
  | 21 => ("MenOnCradlesModel", "nestTo", "[I", true)
  | 22 => ("MenOnCradlesModel", "windOf", "[I", true)
  | 23 => ("MenOnCradlesModel", "leaves", "I", false)
  | 24 => ("MenOnCradlesModel", "leaveTower", "[I", true)
  | 25 => ("MenOnCradlesModel", "leaveDay", "[I", true)
  | 26 => ("MenOnCradlesModel", "leaveFrom", "[I", true)
  | 27 => ("MenOnCradlesModel", "leaveTo", "[I", true)
  | 28 => ("MenOnCradlesModel", "isElder", "[Z", true)
  | 29 => ("MenOnCradlesModel", "drilledOn", "[I", true)
  | 30 => ("MenOnCradlesModel", "codes", "I", false)
  | 31 => ("MenOnCradlesModel", "readCodes", "I", false)
  | 32 => ("MenOnCradlesModel", "op", "[I", true)
  | 33 => ("MenOnCradlesModel", "arg", "[I", true)
  | 34 => ("MenOnCradlesModel", "linesMany", "[I", true)
  | 35 => ("MenOnCradlesModel", "lineAt", "[I", true)
  | 36 => ("MenOnCradlesModel", "lineOf", "[I", true)
  | 37 => ("MenOnCradlesModel", "rateNow", "I", false)
  | 38 => ("MenOnCradlesModel", "drillNow", "I", false)
  | 39 => ("MenOnCradlesModel", "rateRead", "I", false)
  | 40 => ("MenOnCradlesModel", "drillRead", "I", false)
  | 41 => ("MenOnCradlesModel", "wantsKeys", "Z", false)
  | 42 => ("MenOnCradlesModel", "keysRead", "Z", false)
  | 43 => ("MenOnCradlesModel", "facts", "[I", true)
  | 44 => ("MenOnCradlesModel", "pile", "[I", true)
  | 45 => ("MenOnCradlesModel", "drops", "I", false)
  | 46 => ("MenOnCradlesModel", "dropTower", "[I", true)
  | 47 => ("MenOnCradlesModel", "dropSide", "[I", true)
  | 48 => ("MenOnCradlesModel", "dropStop", "[I", true)
  | 49 => ("MenOnCradlesModel", "dropDay", "[I", true)
  | 50 => ("MenOnCradlesModel", "dropHour", "[I", true)
  | 51 => ("MenOnCradlesModel", "dropHours", "[I", true)
  | 52 => ("MenOnCradlesModel", "dropRate", "[I", true)
  | 53 => ("MenOnCradlesModel", "dropOne", "[I", true)
  | 54 => ("MenOnCradlesModel", "dropOther", "[I", true)
  | 55 => ("MenOnCradlesModel", "dropPanes", "[I", true)
  | 56 => ("MenOnCradlesModel", "dropWear", "[I", true)
  | 57 => ("MenOnCradlesModel", "dropPrice", "[I", true)
  | 58 => ("MenOnCradlesModel", "dropWater", "[I", true)
  | 59 => ("MenOnCradlesModel", "dropWorn", "[I", true)
  | 60 => ("MenOnCradlesModel", "dropAge", "[I", true)
  | 61 => ("MenOnCradlesModel", "dropGapOne", "[I", true)
  | 62 => ("MenOnCradlesModel", "dropGapOther", "[I", true)
  | 63 => ("MenOnCradlesModel", "dropReach", "[J", true)
  | 64 => ("MenOnCradlesModel", "wants", "I", false)
  | 65 => ("MenOnCradlesModel", "wantSide", "[I", true)
  | 66 => ("MenOnCradlesModel", "wantWorth", "[I", true)
  | 67 => ("MenOnCradlesModel", "chanceOf", "[I", true)
  | 68 => ("MenOnCradlesModel", "capNow", "I", false)
  | 69 => ("MenOnCradlesModel", "plans", "[J", true)
  | 70 => ("MenOnCradlesModel", "goTogether", "[I", true)
  | 71 => ("MenOnCradlesModel", "gangSum", "[I", true)
  | 72 => ("MenOnCradlesModel", "gangMany", "[I", true)
  | 73 => ("MenOnCradlesModel", "offerCost", "[I", true)
  | 74 => ("MenOnCradlesModel", "offerTowers", "[I", true)
  | 75 => ("MenOnCradlesModel", "offerMany", "[I", true)
  | 76 => ("MenOnCradlesModel", "servedBy", "[I", true)
  | 77 => ("MenOnCradlesModel", "isAway", "[Z", true)
  | 78 => ("MenOnCradlesModel", "onCall", "[I", true)
  | 79 => ("MenOnCradlesModel", "lastCall", "[I", true)
  | 80 => ("MenOnCradlesModel", "keyLines", "I", false)
  | 81 => ("MenOnCradlesModel", "keyTower", "[I", true)
  | 82 => ("MenOnCradlesModel", "keyPerson", "[I", true)
  | 83 => ("MenOnCradlesModel", "keyHour", "[I", true)
  | 84 => ("MenOnCradlesModel", "keyTakes", "[Z", true)
  | 85 => ("MenOnCradlesModel", "films", "I", false)
  | 86 => ("MenOnCradlesModel", "filmTower", "[I", true)
  | 87 => ("MenOnCradlesModel", "filmSide", "[I", true)
  | 88 => ("MenOnCradlesModel", "filmFrom", "[I", true)
  | 89 => ("MenOnCradlesModel", "filmTo", "[I", true)
  | 90 => ("MenOnCradlesModel", "filmFirst", "[I", true)
  | 91 => ("MenOnCradlesModel", "filmLast", "[I", true)
  | 92 => ("MenOnCradlesModel", "complaints", "I", false)
  | 93 => ("MenOnCradlesModel", "badTower", "[I", true)
  | 94 => ("MenOnCradlesModel", "badSide", "[I", true)
  | 95 => ("MenOnCradlesModel", "badFloor", "[I", true)
  | 96 => ("MenOnCradlesModel", "badDay", "[I", true)
  | 97 => ("MenOnCradlesModel", "badHour", "[I", true)
  | 98 => ("MenOnCradlesModel", "rowMany", "I", false)
  | 99 => ("MenOnCradlesModel", "rowOf", "[I", true)
  | 100 => ("MenOnCradlesModel", "keptWorn", "[I", true)
  | 101 => ("MenOnCradlesModel", "keptWashed", "[I", true)
  | 102 => ("MenOnCradlesModel", "isTriedPane", "[Z", true)
  | 103 => ("MenOnCradlesModel", "triedOf", "[J", true)
  | 104 => ("MenOnCradlesModel", "cameNot", "[Z", true)
  | 105 => ("MenOnCradlesModel", "laid", "I", false)
  | 106 => ("MenOnCradlesModel", "markOrder", "[I", true)
  | 107 => ("MenOnCradlesModel", "markDrops", "[I", true)
  | 108 => ("MenOnCradlesModel", "markWorn", "[I", true)
  | _ => ("MenOnCradlesModel", "markWashed", "[I", true)
def kF_11 : Nat → FieldType := fun k => match k with
  | 0 => .int
  | 1 => .array .int
  | 2 => .int
  | 3 => .int
  | 4 => .array .int
  | 5 => .array .int
  | 6 => .array .long
  | 7 => .int
  | 8 => .int
  | 9 => .array .long
  | 10 => .array .int
  | 11 => .array .int
  | 12 => .array .boolean
  | 13 => .array .int
  | 14 => .array .boolean
  | 15 => .array .int
  | 16 => .array .int
  | 17 => .array .int
  | 18 => .int
  | 19 => .array .int
  | 20 => .array .int
  | 21 => .array .int
  | 22 => .array .int
  | 23 => .int
  | 24 => .array .int
  | 25 => .array .int
  | 26 => .array .int
  | 27 => .array .int
  | 28 => .array .boolean
  | 29 => .array .int
  | 30 => .int
  | 31 => .int
  | 32 => .array .int
  | 33 => .array .int
  | 34 => .array .int
  | 35 => .array .int
  | 36 => .array .int
  | 37 => .int
  | 38 => .int
  | 39 => .int
  | 40 => .int
  | 41 => .boolean
  | 42 => .boolean
  | 43 => .array .int
  | 44 => .array .int
  | 45 => .int
  | 46 => .array .int
  | 47 => .array .int
  | 48 => .array .int
  | 49 => .array .int
  | 50 => .array .int
  | 51 => .array .int
  | 52 => .array .int
  | 53 => .array .int
  | 54 => .array .int
  | 55 => .array .int
  | 56 => .array .int
  | 57 => .array .int
  | 58 => .array .int
  | 59 => .array .int
  | 60 => .array .int
  | 61 => .array .int
  | 62 => .array .int
  | 63 => .array .long
  | 64 => .int
  | 65 => .array .int
  | 66 => .array .int
  | 67 => .array .int
  | 68 => .int
  | 69 => .array .long
  | 70 => .array .int
  | 71 => .array .int
  | 72 => .array .int
  | 73 => .array .int
  | 74 => .array .int
  | 75 => .array .int
  | 76 => .array .int
  | 77 => .array .boolean
  | 78 => .array .int
  | 79 => .array .int
  | 80 => .int
  | 81 => .array .int
  | 82 => .array .int
  | 83 => .array .int
  | 84 => .array .boolean
  | 85 => .int
  | 86 => .array .int
  | 87 => .array .int
  | 88 => .array .int
  | 89 => .array .int
  | 90 => .array .int
  | 91 => .array .int
  | 92 => .int
  | 93 => .array .int
  | 94 => .array .int
  | 95 => .array .int
  | 96 => .array .int
  | 97 => .array .int
  | 98 => .int
  | 99 => .array .int
  | 100 => .array .int
  | 101 => .array .int
  | 102 => .array .boolean
  | 103 => .array .long
  | 104 => .array .boolean
  | 105 => .int
  | 106 => .array .int
  | 107 => .array .int
  | 108 => .array .int
  | _ => .array .int
def kCL : List vw_C := [("MenOnCradles$Drop", kT_0, 19), ("MenOnCradles$KeyBook", kT_1, 5), ("MenOnCradles$Marks", kT_2, 4), ("MenOnCradles$People", kT_3, 14), ("MenOnCradles$Planner", kT_4, 16), ("MenOnCradles$Reader", kT_5, 10), ("MenOnCradles$Rule", kT_6, 10), ("MenOnCradles$Shop", kT_7, 3), ("MenOnCradles$Spans", kT_8, 6), ("MenOnCradles$Tower", kT_9, 7), ("MenOnCradles", kT_10, 19), ("MenOnCradlesModel", kT_11, 110)]
def kTY (c : Nat) : Nat → FieldType := match c with
  | 0 => kF_0
  | 1 => kF_1
  | 2 => kF_2
  | 3 => kF_3
  | 4 => kF_4
  | 5 => kF_5
  | 6 => kF_6
  | 7 => kF_7
  | 8 => kF_8
  | 9 => kF_9
  | 10 => kF_10
  | _ => kF_11
def kON (o : Nat) : String := match o with
  | 0 => "MenOnCradles$Drop"
  | 1 => "MenOnCradles$KeyBook"
  | 2 => "MenOnCradles$Marks"
  | 3 => "MenOnCradles$People"
  | 4 => "MenOnCradles$Planner"
  | 5 => "MenOnCradles$Reader"
  | 6 => "MenOnCradles$Rule"
  | 7 => "MenOnCradles$Shop"
  | 8 => "MenOnCradles$Spans"
  | 9 => "MenOnCradles$Tower"
  | 10 => "MenOnCradles"
  | 11 => "MenOnCradlesModel"
  | 12 => "java/lang/Integer"
  | 13 => "java/lang/Long"
  | 14 => "java/lang/Math"
  | 15 => "java/util/Arrays"
  | _ => "MenOnCradlesLaw"
def kTB : List Cond := lw_tbl.filter goodWord
def kin (i : Nat) (w : Cond) : Bool := decide (lw_tbl[i]? = some w) && goodWord w
theorem kin_ok {i : Nat} {w : Cond} (h : kin i w = true) : w ∈ kTB := by
  simp only [kin, Bool.and_eq_true, decide_eq_true_eq] at h
  exact List.mem_filter.mpr ⟨List.mem_of_getElem? h.1, h.2⟩
theorem kTB_good : ∀ w ∈ kTB, goodWord w = true := fun w h => (List.mem_filter.mp h).2
def kFL : List (Nat × Nat × Nat × Nat × Nat × Nat) := [(0, 9, 0, 0, 0, 0), (0, 15, 0, 1, 0, 0), (0, 18, 0, 2, 0, 0), (0, 21, 0, 4, 0, 0), (0, 24, 0, 5, 0, 0), (0, 27, 0, 6, 0, 0), (0, 30, 0, 8, 0, 0), (0, 33, 0, 9, 0, 0), (0, 36, 0, 10, 0, 0), (0, 39, 0, 11, 0, 0), (0, 46, 0, 18, 1, 0), (0, 61, 0, 16, 0, 0), (0, 64, 0, 17, 0, 0), (0, 67, 0, 12, 0, 0), (0, 70, 0, 3, 0, 0), (0, 73, 0, 7, 0, 0), (1, 9, 1, 0, 0, 0), (1, 15, 1, 1, 2, 1), (1, 19, 1, 2, 2, 1), (1, 22, 1, 3, 2, 1), (1, 25, 1, 4, 2, 1), (2, 11, 2, 0, 2, 1), (2, 15, 2, 1, 2, 1), (2, 18, 2, 2, 2, 1), (2, 21, 2, 3, 0, 0), (2, 41, 9, 4, 0, 0), (3, 9, 3, 0, 2, 1), (3, 15, 3, 1, 2, 1), (3, 18, 3, 2, 0, 0), (3, 22, 3, 3, 0, 0), (3, 25, 3, 4, 2, 1), (3, 28, 3, 5, 2, 1), (3, 31, 3, 6, 2, 1), (3, 34, 3, 7, 2, 1), (3, 37, 3, 8, 2, 1), (3, 40, 3, 9, 2, 1), (3, 43, 3, 10, 2, 1), (3, 46, 3, 11, 0, 0), (3, 49, 3, 12, 0, 0), (3, 52, 3, 13, 3, 0), (4, 11, 4, 0, 0, 0), (4, 17, 4, 1, 1, 0), (4, 21, 4, 2, 1, 0), (4, 24, 4, 3, 0, 0), (4, 27, 4, 4, 0, 0), (4, 30, 4, 5, 2, 1), (4, 34, 4, 6, 2, 1), (4, 37, 4, 7, 2, 1), (4, 40, 4, 8, 2, 1), (4, 43, 4, 9, 2, 1), (4, 46, 4, 10, 2, 1), (4, 50, 4, 11, 2, 1), (4, 53, 4, 12, 2, 1), (4, 56, 4, 13, 2, 1), (4, 59, 4, 14, 0, 0), (4, 62, 4, 15, 1, 0), (5, 11, 5, 0, 0, 0), (5, 15, 5, 1, 2, 1), (5, 19, 5, 2, 2, 1), (5, 23, 5, 3, 2, 1), (5, 26, 5, 4, 0, 0), (5, 29, 5, 5, 0, 0), (5, 32, 5, 6, 0, 0), (5, 35, 5, 7, 0, 0), (5, 38, 5, 8, 0, 0), (5, 41, 5, 9, 0, 0), (5, 133, 6, 0, 0, 0), (5, 136, 6, 1, 0, 0), (5, 142, 6, 2, 0, 0), (5, 145, 6, 3, 0, 0), (5, 148, 6, 4, 3, 0), (6, 9, 6, 5, 2, 1), (6, 15, 6, 6, 2, 1), (6, 18, 6, 7, 2, 1), (6, 21, 6, 8, 2, 1), (6, 27, 6, 9, 0, 0), (6, 37, 6, 0, 0, 0), (6, 40, 6, 1, 0, 0), (6, 43, 6, 2, 0, 0), (6, 46, 6, 3, 0, 0), (6, 49, 6, 4, 3, 0), (7, 11, 7, 0, 2, 1), (7, 15, 7, 1, 2, 1), (7, 18, 7, 2, 2, 1), (8, 9, 8, 5, 0, 0), (8, 21, 8, 0, 2, 1), (8, 25, 8, 1, 2, 1), (8, 28, 8, 3, 2, 1), (8, 31, 8, 2, 2, 1), (8, 34, 8, 4, 2, 1), (9, 9, 9, 2, 0, 0), (9, 15, 9, 3, 0, 0), (9, 18, 9, 4, 0, 0), (9, 21, 9, 5, 2, 1), (9, 25, 9, 6, 2, 1), (9, 28, 9, 0, 0, 1), (9, 31, 9, 1, 0, 1), (10, 11, 10, 0, 2, 1), (10, 15, 10, 1, 2, 1), (10, 24, 10, 2, 2, 1), (10, 28, 10, 3, 2, 1), (10, 31, 10, 4, 2, 1), (10, 34, 10, 5, 2, 1), (10, 40, 10, 6, 2, 1), (10, 47, 10, 7, 2, 1), (10, 54, 10, 8, 2, 1), (10, 61, 10, 9, 2, 1), (10, 68, 10, 10, 2, 1), (10, 75, 10, 11, 2, 1), (10, 81, 10, 12, 2, 1), (10, 86, 10, 13, 2, 1), (10, 90, 10, 14, 2, 1), (10, 94, 10, 15, 2, 0), (10, 98, 10, 16, 2, 0), (10, 101, 10, 17, 0, 0), (10, 105, 10, 18, 0, 0), (10, 150, 9, 2, 0, 0), (10, 153, 9, 3, 0, 0), (10, 156, 9, 4, 0, 0), (10, 178, 3, 0, 2, 1), (10, 185, 5, 0, 0, 0), (10, 217, 0, 0, 0, 0), (10, 220, 0, 1, 0, 0), (10, 223, 0, 2, 0, 0), (10, 226, 0, 4, 0, 0), (10, 229, 0, 5, 0, 0), (10, 232, 0, 6, 0, 0), (10, 235, 0, 12, 0, 0), (10, 238, 0, 15, 0, 0), (10, 241, 0, 16, 0, 0), (10, 244, 0, 17, 0, 0), (10, 271, 9, 1, 0, 1), (10, 310, 0, 8, 0, 0), (10, 313, 0, 9, 0, 0), (10, 331, 4, 0, 0, 0), (10, 356, 4, 1, 1, 0), (10, 378, 3, 2, 0, 0), (10, 381, 3, 1, 2, 1), (10, 419, 8, 5, 0, 0), (10, 489, 1, 0, 0, 0), (10, 490, 9, 0, 0, 1), (10, 506, 0, 10, 0, 0), (10, 509, 0, 11, 0, 0), (10, 523, 0, 3, 0, 0), (10, 524, 6, 2, 0, 0), (10, 527, 0, 7, 0, 0), (10, 528, 0, 18, 1, 0), (10, 531, 0, 13, 0, 0), (10, 536, 0, 14, 0, 0), (10, 569, 6, 4, 3, 0), (10, 579, 6, 3, 0, 0), (10, 597, 8, 0, 2, 1), (10, 599, 8, 1, 2, 1), (10, 602, 8, 2, 2, 1), (11, 1, 11, 0, 0, 0), (11, 11, 11, 2, 0, 0), (11, 14, 11, 1, 2, 1), (11, 24, 11, 4, 2, 1), (11, 27, 11, 5, 2, 1), (11, 30, 11, 6, 2, 1), (11, 80, 11, 9, 2, 1), (11, 83, 11, 10, 2, 1), (11, 86, 11, 11, 2, 1), (11, 89, 11, 12, 2, 1), (11, 93, 11, 13, 2, 1), (11, 96, 11, 14, 2, 1), (11, 99, 11, 15, 2, 1), (11, 102, 11, 16, 2, 1), (11, 105, 11, 17, 2, 1), (11, 108, 11, 19, 2, 1), (11, 111, 11, 20, 2, 1), (11, 114, 11, 21, 2, 1), (11, 117, 11, 22, 2, 1), (11, 120, 11, 24, 2, 1), (11, 123, 11, 25, 2, 1), (11, 126, 11, 26, 2, 1), (11, 129, 11, 27, 2, 1), (11, 132, 11, 28, 2, 1), (11, 135, 11, 29, 2, 1), (11, 138, 11, 32, 2, 1), (11, 141, 11, 33, 2, 1), (11, 144, 11, 34, 2, 1), (11, 147, 11, 35, 2, 1), (11, 150, 11, 36, 2, 1), (11, 153, 11, 43, 2, 1), (11, 156, 11, 44, 2, 1), (11, 159, 11, 46, 2, 1), (11, 162, 11, 47, 2, 1), (11, 165, 11, 48, 2, 1), (11, 168, 11, 49, 2, 1), (11, 171, 11, 50, 2, 1), (11, 174, 11, 51, 2, 1), (11, 177, 11, 52, 2, 1), (11, 180, 11, 53, 2, 1), (11, 183, 11, 54, 2, 1), (11, 186, 11, 55, 2, 1), (11, 189, 11, 56, 2, 1), (11, 192, 11, 57, 2, 1), (11, 195, 11, 58, 2, 1), (11, 198, 11, 59, 2, 1), (11, 201, 11, 60, 2, 1), (11, 204, 11, 61, 2, 1), (11, 207, 11, 62, 2, 1), (11, 210, 11, 63, 2, 1), (11, 213, 11, 65, 2, 1), (11, 216, 11, 66, 2, 1), (11, 219, 11, 67, 2, 1), (11, 222, 11, 69, 2, 1), (11, 225, 11, 70, 2, 1), (11, 228, 11, 71, 2, 1), (11, 231, 11, 72, 2, 1), (11, 234, 11, 73, 2, 1), (11, 237, 11, 74, 2, 1), (11, 240, 11, 75, 2, 1), (11, 243, 11, 76, 2, 1), (11, 246, 11, 77, 2, 1), (11, 249, 11, 78, 2, 1), (11, 252, 11, 79, 2, 1), (11, 255, 11, 81, 2, 1), (11, 258, 11, 82, 2, 1), (11, 261, 11, 83, 2, 1), (11, 264, 11, 84, 2, 1), (11, 267, 11, 86, 2, 1), (11, 270, 11, 87, 2, 1), (11, 273, 11, 88, 2, 1), (11, 276, 11, 89, 2, 1), (11, 279, 11, 90, 2, 1), (11, 282, 11, 91, 2, 1), (11, 285, 11, 93, 2, 1), (11, 288, 11, 94, 2, 1), (11, 291, 11, 95, 2, 1), (11, 294, 11, 96, 2, 1), (11, 297, 11, 97, 2, 1), (11, 300, 11, 99, 2, 1), (11, 303, 11, 100, 2, 1), (11, 306, 11, 101, 2, 1), (11, 309, 11, 102, 2, 1), (11, 312, 11, 103, 2, 1), (11, 315, 11, 104, 2, 1), (11, 318, 11, 106, 2, 1), (11, 321, 11, 107, 2, 1), (11, 324, 11, 108, 2, 1), (11, 327, 11, 109, 2, 1), (11, 330, 11, 68, 0, 0), (11, 333, 11, 37, 0, 0), (11, 336, 11, 38, 0, 0), (11, 343, 11, 3, 0, 0), (11, 362, 11, 7, 0, 0), (11, 365, 11, 8, 0, 0), (11, 402, 11, 18, 0, 0), (11, 415, 11, 23, 0, 0), (11, 421, 11, 31, 0, 0), (11, 427, 11, 39, 0, 0), (11, 430, 11, 40, 0, 0), (11, 433, 11, 42, 3, 0), (11, 446, 11, 30, 0, 0), (11, 449, 11, 41, 3, 0), (11, 502, 11, 45, 0, 0), (11, 576, 11, 64, 0, 0), (11, 627, 11, 80, 0, 0), (11, 630, 11, 85, 0, 0), (11, 633, 11, 92, 0, 0), (11, 657, 11, 98, 0, 0), (11, 685, 11, 105, 0, 0)]
def kFLp : List Nat := [498, 500, 502, 506, 508, 510, 514, 516, 518, 520, 531, 527, 529, 522, 504, 512, 325, 327, 328, 329, 330, 428, 429, 430, 431, 654, 234, 236, 238, 240, 241, 242, 243, 244, 245, 246, 247, 248, 249, 250, 354, 356, 358, 359, 360, 361, 362, 363, 364, 365, 366, 367, 368, 369, 370, 371, 286, 288, 289, 290, 291, 292, 293, 294, 295, 296, 455, 457, 459, 462, 465, 467, 468, 469, 470, 471, 454, 456, 458, 461, 464, 412, 413, 414, 209, 201, 203, 207, 205, 208, 649, 651, 653, 656, 657, 645, 647, 572, 573, 574, 575, 576, 577, 578, 579, 580, 581, 582, 583, 584, 585, 586, 587, 588, 589, 590, 650, 652, 655, 235, 287, 499, 501, 503, 507, 509, 511, 523, 526, 528, 530, 648, 515, 517, 355, 357, 239, 237, 210, 326, 646, 519, 521, 505, 460, 513, 532, 524, 525, 466, 463, 202, 204, 206, 1836, 1838, 1837, 1840, 1841, 1842, 1845, 1846, 1847, 1848, 1849, 1850, 1851, 1852, 1853, 1855, 1856, 1857, 1858, 1860, 1861, 1862, 1863, 1864, 1865, 1868, 1869, 1870, 1871, 1872, 1879, 1880, 1882, 1883, 1884, 1885, 1886, 1887, 1888, 1889, 1890, 1891, 1892, 1893, 1894, 1895, 1896, 1897, 1898, 1899, 1901, 1902, 1903, 1905, 1906, 1907, 1908, 1909, 1910, 1911, 1912, 1913, 1914, 1915, 1917, 1918, 1919, 1920, 1922, 1923, 1924, 1925, 1926, 1927, 1929, 1930, 1931, 1932, 1933, 1935, 1936, 1937, 1938, 1939, 1940, 1942, 1943, 1944, 1945, 1904, 1873, 1874, 1839, 1843, 1844, 1854, 1859, 1867, 1875, 1876, 1878, 1866, 1877, 1881, 1900, 1916, 1921, 1928, 1934, 1941]
def kKI : List (Nat × Nat × Int32) := [(12, 265, 1431655765), (12, 266, 858993459), (12, 267, 252645135)]
def kKIp : List Nat := [1203, 1204, 1205]
def kKL : List (Nat × Nat × Int64) := [(4, 15, -1), (4, 104, 10), (10, 316, -1), (11, 34, 990358), (11, 36, 32936976), (11, 38, 1171919), (11, 40, 30910767), (11, 42, 43183939), (11, 44, 913868), (11, 46, 8421175), (11, 48, 1176170), (11, 50, 1891), (11, 52, 573), (11, 54, 19741), (11, 56, 38274705), (11, 58, 974881), (11, 60, 439334689), (11, 62, 5538), (11, 64, 1172060), (11, 66, 426554), (11, 68, 1177862), (11, 70, 30056599), (11, 72, 15782517), (11, 74, 1186234), (11, 76, 1633), (11, 78, 564972), (11, 346, 37), (11, 355, 10), (11, 357, 48), (11, 574, -1), (11, 610, 100000), (13, 314, 6148914691236517205), (13, 316, 3689348814741910323), (13, 318, 1085102592571150095), (16, 73, 4294967295)]
def kKLp : List Nat := [349, 1311, 1054, 1813, 1814, 1815, 1816, 1817, 1818, 1819, 1820, 1821, 1822, 1823, 1824, 1825, 1826, 1827, 1828, 1829, 1830, 1831, 1832, 1833, 1834, 1835, 2247, 2254, 2255, 2476, 2533, 1021, 1022, 1023, 2707]
def kSL : List (Nat × Nat × Nat) := [(5, 78, 1000012), (5, 86, 1000010), (5, 92, 1000011), (10, 212, 1000013)]
def kGL : List (Nat × Nat × Nat) := [(4, 74, 1000001), (4, 129, 1000002)]
def kCK : List (Nat × Nat × Nat) := [(10, 19, 8), (10, 37, 3), (10, 44, 5), (10, 51, 1), (10, 58, 4), (10, 65, 7), (10, 72, 2), (10, 79, 6), (10, 84, 0), (10, 9, 9), (16, 8, 10), (16, 27, 11)]
def kCKp : List Nat := [192, 225, 280, 319, 343, 406, 422, 443, 441, 190, 182, 1808]
def kAL : List (Nat × Nat × Nat) := [(10, 9, 104), (10, 84, 105)]
def kALp : List Nat := [190, 441]
def kOL : List (Nat × Nat) := [(0, 3), (1, 3), (2, 3), (3, 3), (4, 5), (5, 5), (6, 3), (7, 3), (8, 3), (9, 3), (10, 3), (11, 18)]
def kOLp : List Nat := [497, 324, 427, 230, 348, 285, 448, 411, 197, 644, 187, 1812]
def kML : List (Nat × Nat × Nat × Nat × Nat × Nat × Nat) := [(0, 42, 184, 0, 2, 1, 0), (0, 50, 6, 1, 1, 1, 0), (0, 54, 185, 0, 2, 1, 0), (0, 57, 183, 0, 3, 1, 0), (0, 76, 379, 0, 2, 1, 0), (0, 82, 381, 0, 2, 1, 0), (0, 85, 377, 0, 1, 1, 0), (1, 29, 15, 1, 2, 1, 1), (1, 33, 379, 0, 2, 1, 0), (2, 25, 184, 0, 2, 1, 0), (2, 29, 21, 1, 3, 0, 2), (2, 33, 22, 1, 2, 1, 2), (2, 37, 183, 0, 3, 1, 0), (3, 56, 383, 0, 2, 0, 0), (3, 62, 185, 0, 2, 1, 0), (3, 66, 377, 0, 1, 1, 0), (3, 72, 191, 0, 1, 1, 0), (3, 76, 29, 1, 0, 0, 3), (3, 79, 31, 1, 2, 0, 3), (3, 83, 33, 1, 0, 0, 3), (3, 86, 25, 1, 1, 1, 3), (3, 89, 184, 0, 2, 1, 0), (3, 92, 381, 0, 2, 1, 0), (3, 98, 30, 1, 2, 1, 3), (3, 101, 32, 1, 3, 1, 3), (3, 105, 379, 0, 2, 1, 0), (3, 108, 34, 1, 2, 1, 3), (3, 111, 37, 1, 3, 1, 3), (3, 114, 39, 1, 2, 1, 3), (3, 117, 38, 1, 2, 1, 3), (4, 65, 383, 0, 2, 0, 0), (4, 71, 382, 0, 2, 0, 0), (4, 77, 184, 0, 2, 1, 0), (4, 81, 42, 1, 0, 0, 4), (4, 84, 185, 0, 2, 1, 0), (4, 87, 51, 1, 2, 2, 4), (4, 91, 52, 1, 2, 2, 4), (4, 94, 53, 1, 3, 2, 4), (4, 98, 380, 0, 2, 2, 0), (4, 106, 47, 1, 2, 1, 4), (4, 110, 49, 0, 3, 1, 0), (4, 114, 48, 1, 1, 1, 4), (4, 118, 41, 0, 1, 2, 0), (4, 122, 59, 1, 1, 0, 4), (4, 126, 58, 0, 2, 1, 0), (4, 132, 57, 0, 2, 1, 0), (4, 135, 61, 1, 1, 0, 4), (4, 139, 62, 1, 3, 0, 4), (4, 143, 63, 1, 0, 2, 4), (4, 147, 60, 1, 1, 2, 4), (4, 150, 54, 1, 2, 1, 4), (4, 153, 66, 1, 3, 1, 4), (4, 157, 55, 1, 0, 0, 4), (4, 160, 56, 1, 1, 1, 4), (5, 44, 183, 0, 3, 1, 0), (5, 48, 95, 1, 0, 0, 6), (5, 53, 71, 1, 0, 0, 5), (5, 56, 84, 1, 1, 1, 5), (5, 60, 81, 1, 1, 1, 5), (5, 64, 72, 1, 0, 1, 5), (5, 68, 73, 1, 2, 1, 5), (5, 72, 74, 1, 0, 1, 5), (5, 75, 76, 1, 0, 1, 5), (5, 80, 9003, 1, 1, 1, 9000), (5, 88, 75, 1, 2, 1, 5), (5, 94, 9001, 1, 0, 1, 9000), (5, 97, 9002, 1, 1, 1, 9000), (5, 101, 80, 1, 1, 1, 5), (5, 104, 77, 1, 0, 0, 5), (5, 107, 78, 1, 0, 1, 5), (5, 111, 85, 1, 1, 1, 5), (5, 114, 86, 1, 1, 1, 5), (5, 117, 82, 1, 0, 1, 5), (5, 120, 90, 1, 2, 1, 5), (5, 124, 87, 1, 1, 1, 5), (5, 127, 88, 1, 1, 1, 5), (5, 130, 89, 1, 1, 1, 5), (5, 139, 83, 1, 1, 1, 5), (5, 152, 96, 1, 1, 0, 6), (5, 156, 91, 1, 3, 1, 5), (5, 160, 97, 1, 1, 0, 6), (5, 163, 93, 1, 2, 1, 5), (5, 166, 92, 1, 1, 1, 5), (5, 169, 98, 1, 1, 0, 6), (5, 172, 79, 1, 0, 1, 5), (6, 24, 95, 1, 0, 0, 6), (6, 31, 383, 0, 2, 0, 0), (6, 53, 184, 0, 2, 1, 0), (6, 59, 101, 1, 2, 1, 6), (6, 63, 102, 1, 2, 1, 6), (7, 21, 184, 0, 2, 1, 0), (7, 25, 108, 1, 0, 1, 7), (7, 29, 377, 0, 1, 1, 0), (7, 35, 185, 0, 2, 1, 0), (7, 38, 109, 1, 2, 1, 7), (7, 41, 106, 1, 1, 1, 7), (7, 44, 110, 1, 2, 1, 7), (8, 15, 379, 0, 2, 1, 0), (8, 37, 115, 1, 2, 1, 8), (8, 41, 183, 0, 3, 1, 0), (9, 34, 184, 0, 2, 1, 0), (9, 38, 125, 0, 3, 1, 0), (9, 42, 377, 0, 1, 1, 0), (9, 48, 186, 0, 1, 1, 0), (9, 52, 118, 1, 2, 1, 9), (9, 56, 121, 1, 1, 1, 9), (9, 59, 123, 1, 1, 1, 9), (9, 62, 122, 1, 1, 1, 9), (10, 21, 111, 2, 1, 0, 8), (10, 39, 23, 2, 0, 0, 3), (10, 46, 68, 2, 0, 0, 5), (10, 53, 13, 2, 0, 0, 1), (10, 60, 40, 2, 0, 0, 4), (10, 67, 103, 2, 0, 0, 7), (10, 74, 17, 2, 0, 0, 2), (10, 93, 94, 2, 0, 0, 6), (10, 108, 0, 2, 0, 0, 0), (10, 109, 184, 0, 2, 1, 0), (10, 113, 183, 0, 3, 1, 0), (10, 117, 116, 2, 2, 0, 9), (10, 120, 194, 1, 4, 1, 10), (10, 124, 117, 1, 4, 0, 9), (10, 128, 188, 0, 2, 1, 0), (10, 131, 200, 0, 4, 1, 0), (10, 135, 112, 1, 5, 1, 8), (10, 139, 193, 1, 3, 1, 10), (10, 142, 120, 1, 3, 0, 9), (10, 146, 192, 1, 1, 1, 10), (10, 159, 186, 0, 1, 1, 0), (10, 162, 187, 0, 1, 1, 0), (10, 165, 189, 0, 1, 1, 0), (10, 168, 190, 0, 2, 1, 0), (10, 171, 191, 0, 1, 1, 0), (10, 174, 24, 1, 2, 0, 3), (10, 181, 69, 1, 1, 0, 5), (10, 188, 70, 1, 1, 1, 5), (10, 192, 202, 1, 4, 2, 10), (10, 196, 378, 0, 1, 1, 0), (10, 202, 203, 1, 7, 1, 10), (10, 206, 216, 1, 0, 1, 10), (10, 247, 212, 1, 1, 1, 10), (10, 251, 10, 1, 0, 1, 0), (10, 254, 7, 1, 4, 1, 0), (10, 257, 218, 1, 3, 0, 10), (10, 261, 113, 1, 3, 1, 8), (10, 264, 220, 1, 3, 0, 10), (10, 267, 99, 1, 1, 1, 6), (10, 274, 221, 1, 5, 1, 10), (10, 278, 377, 0, 1, 1, 0), (10, 283, 379, 0, 2, 1, 0), (10, 289, 118, 1, 2, 1, 9), (10, 292, 185, 0, 2, 1, 0), (10, 295, 121, 1, 1, 1, 9), (10, 298, 122, 1, 1, 1, 9), (10, 301, 222, 1, 3, 1, 10), (10, 304, 223, 1, 3, 1, 10), (10, 307, 124, 1, 1, 1, 9), (10, 318, 9, 1, 1, 2, 0), (10, 322, 43, 1, 2, 1, 4), (10, 325, 44, 1, 3, 0, 4), (10, 328, 46, 1, 1, 0, 4), (10, 334, 54, 1, 2, 1, 4), (10, 337, 50, 1, 2, 2, 4), (10, 341, 41, 0, 1, 2, 0), (10, 344, 235, 0, 3, 2, 0), (10, 350, 55, 1, 0, 0, 4), (10, 353, 56, 1, 1, 1, 4), (10, 360, 45, 1, 3, 0, 4), (10, 363, 64, 1, 0, 1, 4), (10, 366, 65, 1, 0, 1, 4), (10, 369, 67, 1, 0, 1, 4), (10, 372, 27, 1, 3, 0, 3), (10, 375, 28, 1, 0, 0, 3), (10, 384, 104, 1, 4, 0, 7), (10, 388, 196, 1, 0, 1, 10), (10, 391, 107, 1, 1, 1, 7), (10, 394, 106, 1, 1, 1, 7), (10, 397, 35, 1, 3, 0, 3), (10, 400, 36, 1, 2, 1, 3), (10, 403, 14, 1, 4, 1, 1), (10, 407, 15, 1, 2, 1, 1), (10, 410, 16, 1, 2, 1, 1), (10, 413, 198, 0, 2, 1, 0), (10, 416, 215, 1, 1, 1, 10), (10, 420, 225, 1, 2, 1, 10), (10, 424, 228, 1, 1, 1, 10), (10, 427, 229, 1, 1, 1, 10), (10, 430, 231, 1, 2, 1, 10), (10, 433, 230, 1, 3, 1, 10), (10, 437, 12, 1, 2, 1, 0), (10, 440, 3, 1, 1, 1, 0), (10, 443, 4, 1, 1, 1, 0), (10, 446, 25, 1, 1, 1, 3), (10, 449, 5, 1, 1, 1, 0), (10, 452, 195, 1, 7, 1, 10), (10, 456, 21, 1, 3, 0, 2), (10, 460, 232, 1, 0, 1, 10), (10, 463, 233, 1, 3, 2, 10), (10, 467, 22, 1, 2, 1, 2), (10, 471, 19, 1, 3, 0, 2), (10, 474, 18, 1, 1, 1, 2), (10, 477, 20, 1, 2, 1, 2), (10, 480, 105, 1, 0, 1, 7), (10, 483, 26, 1, 0, 1, 3), (10, 486, 197, 1, 0, 1, 10), (10, 493, 119, 1, 0, 1, 9), (10, 496, 199, 0, 3, 1, 0), (10, 500, 114, 1, 2, 1, 8), (10, 503, 1, 1, 3, 0, 0), (10, 512, 204, 1, 2, 0, 10), (10, 516, 206, 1, 2, 1, 10), (10, 520, 207, 1, 2, 1, 10), (10, 532, 205, 1, 1, 1, 10), (10, 539, 217, 1, 1, 0, 10), (10, 543, 101, 1, 2, 1, 6), (10, 547, 8, 1, 1, 2, 0), (10, 551, 381, 0, 2, 1, 0), (10, 554, 208, 1, 1, 1, 10), (10, 557, 209, 1, 1, 1, 10), (10, 560, 210, 1, 2, 1, 10), (10, 563, 211, 1, 1, 1, 10), (10, 566, 213, 1, 1, 1, 10), (10, 573, 214, 1, 1, 1, 10), (10, 576, 2, 1, 1, 1, 0), (10, 582, 100, 1, 1, 1, 6), (10, 585, 219, 1, 3, 0, 10), (10, 588, 201, 1, 3, 1, 10), (10, 591, 6, 1, 1, 1, 0), (10, 594, 224, 1, 3, 1, 10), (10, 605, 11, 1, 2, 1, 0), (10, 608, 227, 1, 3, 1, 10), (10, 611, 226, 1, 1, 1, 10), (10, 614, 234, 1, 2, 1, 10), (10, 617, 380, 0, 2, 2, 0), (11, 7, 238, 1, 1, 0, 11), (11, 339, 240, 0, 1, 1, 0), (11, 348, 242, 0, 1, 1, 0), (11, 352, 241, 0, 1, 1, 0), (11, 359, 243, 0, 1, 1, 0), (11, 368, 246, 1, 1, 1, 11), (11, 371, 245, 1, 1, 0, 11), (11, 375, 247, 1, 1, 1, 11), (11, 378, 250, 1, 1, 1, 11), (11, 381, 252, 0, 3, 1, 0), (11, 385, 257, 1, 1, 1, 11), (11, 388, 255, 0, 1, 1, 0), (11, 391, 259, 1, 4, 1, 11), (11, 395, 258, 0, 4, 1, 0), (11, 399, 253, 0, 1, 1, 0), (11, 405, 260, 1, 3, 1, 11), (11, 408, 261, 0, 3, 1, 0), (11, 412, 254, 0, 1, 1, 0), (11, 418, 256, 0, 1, 1, 0), (11, 424, 244, 1, 0, 0, 11), (11, 437, 277, 1, 0, 0, 11), (11, 440, 248, 1, 1, 0, 11), (11, 443, 275, 1, 0, 0, 11), (11, 452, 251, 1, 1, 0, 11), (11, 455, 278, 1, 0, 0, 11), (11, 458, 276, 1, 2, 1, 11), (11, 462, 279, 1, 1, 0, 11), (11, 465, 273, 1, 2, 0, 11), (11, 469, 280, 1, 1, 0, 11), (11, 472, 281, 1, 1, 0, 11), (11, 475, 249, 1, 1, 1, 11), (11, 478, 282, 1, 1, 0, 11), (11, 481, 283, 1, 1, 0, 11), (11, 484, 285, 0, 3, 1, 0), (11, 487, 284, 1, 1, 1, 11), (11, 490, 272, 1, 2, 1, 11), (11, 494, 287, 1, 4, 2, 11), (11, 498, 288, 0, 1, 1, 0), (11, 505, 290, 1, 1, 1, 11), (11, 508, 295, 1, 6, 1, 11), (11, 512, 294, 1, 2, 1, 11), (11, 515, 269, 1, 3, 1, 11), (11, 518, 289, 1, 5, 1, 11), (11, 522, 292, 1, 5, 0, 11), (11, 526, 286, 1, 4, 1, 11), (11, 529, 293, 1, 4, 1, 11), (11, 532, 344, 1, 2, 1, 11), (11, 535, 349, 1, 5, 1, 11), (11, 539, 296, 1, 7, 1, 11), (11, 543, 297, 1, 7, 1, 11), (11, 547, 300, 1, 1, 1, 11), (11, 550, 301, 1, 1, 1, 11), (11, 553, 305, 1, 5, 1, 11), (11, 556, 307, 1, 5, 1, 11), (11, 559, 309, 0, 1, 1, 0), (11, 562, 308, 1, 6, 1, 11), (11, 565, 311, 1, 3, 1, 11), (11, 568, 312, 1, 3, 1, 11), (11, 571, 314, 1, 2, 1, 11), (11, 579, 322, 1, 2, 1, 11), (11, 582, 323, 1, 1, 2, 11), (11, 586, 324, 0, 1, 2, 0), (11, 589, 325, 1, 3, 2, 11), (11, 593, 327, 0, 2, 2, 0), (11, 597, 326, 1, 0, 0, 11), (11, 600, 328, 0, 3, 2, 0), (11, 604, 331, 0, 2, 1, 0), (11, 607, 330, 1, 3, 2, 11), (11, 612, 334, 1, 0, 0, 11), (11, 615, 335, 1, 1, 1, 11), (11, 618, 338, 1, 2, 1, 11), (11, 621, 339, 1, 1, 1, 11), (11, 624, 342, 1, 3, 1, 11), (11, 636, 352, 1, 2, 1, 11), (11, 639, 354, 1, 3, 1, 11), (11, 642, 353, 1, 2, 1, 11), (11, 645, 355, 1, 1, 1, 11), (11, 648, 356, 1, 1, 1, 11), (11, 651, 360, 1, 3, 1, 11), (11, 654, 362, 1, 2, 1, 11), (11, 660, 298, 1, 7, 1, 11), (11, 663, 299, 1, 7, 1, 11), (11, 666, 368, 1, 1, 0, 11), (11, 669, 369, 1, 0, 0, 11), (11, 672, 373, 1, 2, 2, 11), (11, 676, 372, 1, 3, 1, 11), (11, 679, 329, 1, 3, 2, 11), (11, 682, 332, 1, 1, 2, 11), (16, 26, 126, 2, 0, 0, 10), (16, 29, 239, 2, 0, 0, 11), (16, 30, 127, 1, 3, 1, 10), (16, 34, 262, 1, 3, 1, 11), (16, 35, 128, 1, 5, 1, 10), (16, 39, 263, 1, 5, 1, 11), (16, 40, 129, 1, 6, 1, 10), (16, 44, 264, 1, 6, 1, 11), (16, 45, 130, 1, 4, 1, 10), (16, 49, 265, 1, 4, 1, 11), (16, 50, 131, 1, 3, 1, 10), (16, 53, 266, 1, 3, 1, 11), (16, 54, 132, 1, 4, 1, 10), (16, 58, 267, 1, 4, 1, 11), (16, 59, 133, 1, 4, 1, 10), (16, 62, 268, 1, 4, 1, 11), (16, 63, 134, 1, 2, 1, 10), (16, 67, 270, 1, 2, 1, 11), (16, 68, 135, 1, 2, 1, 10), (16, 72, 271, 1, 2, 1, 11), (16, 75, 136, 1, 3, 1, 10), (16, 79, 237, 1, 3, 1, 11), (16, 80, 137, 1, 0, 1, 10), (16, 84, 274, 1, 0, 1, 11), (16, 85, 138, 1, 4, 1, 10), (16, 89, 291, 1, 4, 1, 11), (16, 90, 139, 1, 7, 1, 10), (16, 94, 298, 1, 7, 1, 11), (16, 95, 140, 1, 7, 1, 10), (16, 98, 299, 1, 7, 1, 11), (16, 99, 9100, 0, 4, 1, 0), (16, 104, 302, 1, 2, 1, 11), (16, 105, 236, 1, 0, 1, 11), (16, 108, 142, 1, 4, 1, 10), (16, 111, 303, 1, 4, 1, 11), (16, 112, 143, 1, 1, 1, 10), (16, 116, 304, 1, 1, 1, 11), (16, 117, 144, 1, 3, 1, 10), (16, 121, 306, 1, 3, 1, 11), (16, 122, 145, 1, 4, 1, 10), (16, 125, 310, 1, 4, 1, 11), (16, 126, 146, 1, 6, 1, 10), (16, 130, 313, 1, 6, 1, 11), (16, 131, 147, 1, 3, 1, 10), (16, 134, 315, 1, 3, 1, 11), (16, 135, 148, 1, 7, 1, 10), (16, 138, 316, 1, 7, 1, 11), (16, 139, 149, 1, 4, 2, 10), (16, 143, 317, 1, 4, 2, 11), (16, 144, 150, 1, 2, 1, 10), (16, 147, 318, 1, 2, 1, 11), (16, 148, 151, 1, 2, 1, 10), (16, 151, 319, 1, 2, 1, 11), (16, 152, 152, 1, 3, 1, 10), (16, 155, 320, 1, 3, 1, 11), (16, 156, 153, 1, 1, 1, 10), (16, 160, 321, 1, 1, 1, 11), (16, 161, 9101, 0, 5, 1, 0), (16, 164, 329, 1, 3, 2, 11), (16, 165, 9102, 0, 3, 1, 0), (16, 168, 332, 1, 1, 2, 11), (16, 169, 158, 1, 3, 1, 10), (16, 172, 333, 1, 3, 1, 11), (16, 173, 159, 1, 1, 1, 10), (16, 176, 336, 1, 1, 1, 11), (16, 177, 160, 1, 4, 1, 10), (16, 180, 337, 1, 4, 1, 11), (16, 181, 161, 1, 1, 1, 10), (16, 184, 340, 1, 1, 1, 11), (16, 185, 162, 1, 3, 1, 10), (16, 189, 341, 1, 3, 1, 11), (16, 190, 163, 1, 2, 1, 10), (16, 193, 343, 1, 2, 1, 11), (16, 194, 164, 1, 5, 1, 10), (16, 197, 345, 1, 5, 1, 11), (16, 198, 165, 1, 3, 1, 10), (16, 201, 346, 1, 3, 1, 11), (16, 202, 166, 1, 3, 1, 10), (16, 205, 347, 1, 3, 1, 11), (16, 206, 167, 1, 6, 1, 10), (16, 209, 348, 1, 6, 1, 11), (16, 210, 168, 1, 1, 1, 10), (16, 213, 350, 1, 1, 1, 11), (16, 214, 169, 1, 5, 1, 10), (16, 218, 351, 1, 5, 1, 11), (16, 219, 170, 1, 2, 1, 10), (16, 222, 353, 1, 2, 1, 11), (16, 223, 171, 1, 2, 1, 10), (16, 226, 357, 1, 2, 1, 11), (16, 227, 172, 1, 0, 1, 10), (16, 230, 358, 1, 0, 1, 11), (16, 231, 173, 1, 3, 1, 10), (16, 234, 359, 1, 3, 1, 11), (16, 235, 174, 1, 6, 1, 10), (16, 238, 361, 1, 6, 1, 11), (16, 239, 175, 1, 3, 1, 10), (16, 242, 363, 1, 3, 1, 11), (16, 243, 176, 1, 2, 1, 10), (16, 246, 364, 1, 2, 1, 11), (16, 247, 177, 1, 1, 1, 10), (16, 250, 365, 1, 1, 1, 11), (16, 251, 178, 1, 7, 1, 10), (16, 254, 366, 1, 7, 1, 11), (16, 255, 179, 1, 0, 1, 10), (16, 259, 367, 1, 0, 1, 11), (16, 260, 9103, 0, 3, 1, 0), (16, 262, 370, 1, 1, 2, 11), (16, 263, 156, 1, 3, 1, 10), (16, 266, 371, 1, 3, 1, 11), (16, 267, 157, 1, 1, 1, 10), (16, 270, 374, 1, 1, 1, 11), (16, 271, 181, 1, 2, 1, 10), (16, 274, 375, 1, 2, 1, 11), (16, 275, 182, 1, 1, 1, 10), (16, 278, 376, 1, 1, 1, 11)]
def kK : av_KT := (kFL, kKI, kKL, kSL, kGL, kCK, kAL, kOL, kML)
theorem zip_mem {α β : Type} : ∀ {l : List α} {k : List β} {x : α}, l.length = k.length → x ∈ l → ∃ y, (x, y) ∈ l.zip k
  | [], _, _, _, h => absurd h List.not_mem_nil
  | a :: l, [], _, e, _ => by simp at e
  | a :: l, b :: k, x, e, h => by
    rcases List.mem_cons.mp h with rfl | h
    · exact ⟨b, List.mem_cons_self⟩
    · obtain ⟨y, hy⟩ := zip_mem (l := l) (k := k) (by simpa using e) h
      exact ⟨y, List.mem_cons_of_mem _ hy⟩
def kck1 (C : String) (T : u_T) (N : Nat) (ty : Nat → FieldType) (P : List Nat) (pn pi cn : Nat) : Bool :=
  (List.range N).all (fun k => kin (P.getD k 0) (u_lay C T k) && decide (parseFieldDescriptor (T k).2.2.1 = some (ty k)) && decide ((T k).1 = C) && decide (defaultValue (ty k) = (match av_kd (T k).2.2.1 with
    | 0 => Value.int 0
    | 1 => Value.long 0
    | _ => Value.null))) && kin pn (Cond.instantiable C N) && kin pi (Cond.initialized C) && decide (kON cn = C)
theorem kck1_ok {C : String} {T : u_T} {N : Nat} {ty : Nat → FieldType} {P : List Nat} {pn pi cn : Nat} (h : kck1 C T N ty P pn pi cn = true) (hd : ∀ a, a < N → ∀ b, b < N → a ≠ b → (T a).2.1 ≠ (T b).2.1) :
    (∀ w ∈ u_ws C T N, w ∈ kTB) ∧ (∀ k, k < N → parseFieldDescriptor (T k).2.2.1 = some (ty k)) ∧ (∀ a, a < N → ∀ b, b < N → a ≠ b → (T a).2.1 ≠ (T b).2.1) ∧ Cond.instantiable C N ∈ kTB ∧ Cond.initialized C ∈ kTB ∧ kON cn = C ∧ ∀ k, k < N → (T k).1 = C ∧ defaultValue (ty k) = (match av_kd (T k).2.2.1 with
    | 0 => Value.int 0
    | 1 => Value.long 0
    | _ => Value.null) := by
  simp only [kck1, Bool.and_eq_true, decide_eq_true_eq, List.all_eq_true, List.mem_range] at h
  obtain ⟨⟨⟨h1, h2⟩, h3⟩, h4⟩ := h
  refine ⟨fun w hw => ?_, fun k hk => (h1 k hk).1.1.2, hd, kin_ok h2, kin_ok h3, h4, fun k hk => ⟨(h1 k hk).1.2, (h1 k hk).2⟩⟩
  obtain ⟨k, hk, rfl⟩ := List.mem_map.mp hw
  exact kin_ok (h1 k (List.mem_range.mp hk)).1.1.1
set_option maxRecDepth 20000 in
theorem kc_0 : kck1 "MenOnCradles$Drop" kT_0 19 kF_0 [533, 535, 537, 539, 541, 543, 545, 547, 549, 551, 553, 555, 557, 559, 561, 563, 565, 567, 569] 493 168 0 = true := by decide +kernel
theorem kd_0 : ∀ a, a < 19 → ∀ b, b < 19 → a ≠ b → (kT_0 a).2.1 ≠ (kT_0 b).2.1 := by decide +kernel
set_option maxRecDepth 20000 in
theorem kc_1 : kck1 "MenOnCradles$KeyBook" kT_1 5 kF_1 [331, 333, 335, 337, 339] 320 163 1 = true := by decide +kernel
theorem kd_1 : ∀ a, a < 5 → ∀ b, b < 5 → a ≠ b → (kT_1 a).2.1 ≠ (kT_1 b).2.1 := by decide +kernel
set_option maxRecDepth 20000 in
theorem kc_2 : kck1 "MenOnCradles$Marks" kT_2 4 kF_2 [432, 434, 436, 438] 423 166 2 = true := by decide +kernel
theorem kd_2 : ∀ a, a < 4 → ∀ b, b < 4 → a ≠ b → (kT_2 a).2.1 ≠ (kT_2 b).2.1 := by decide +kernel
set_option maxRecDepth 20000 in
theorem kc_3 : kck1 "MenOnCradles$People" kT_3 14 kF_3 [251, 253, 255, 257, 259, 261, 263, 265, 267, 269, 271, 273, 275, 277] 226 160 3 = true := by decide +kernel
theorem kd_3 : ∀ a, a < 14 → ∀ b, b < 14 → a ≠ b → (kT_3 a).2.1 ≠ (kT_3 b).2.1 := by decide +kernel
set_option maxRecDepth 20000 in
theorem kc_4 : kck1 "MenOnCradles$Planner" kT_4 16 kF_4 [372, 374, 376, 378, 380, 382, 384, 386, 388, 390, 392, 394, 396, 398, 400, 402] 344 164 4 = true := by decide +kernel
theorem kd_4 : ∀ a, a < 16 → ∀ b, b < 16 → a ≠ b → (kT_4 a).2.1 ≠ (kT_4 b).2.1 := by decide +kernel
set_option maxRecDepth 20000 in
theorem kc_5 : kck1 "MenOnCradles$Reader" kT_5 10 kF_5 [297, 299, 301, 303, 305, 307, 309, 311, 313, 315] 281 162 5 = true := by decide +kernel
theorem kd_5 : ∀ a, a < 10 → ∀ b, b < 10 → a ≠ b → (kT_5 a).2.1 ≠ (kT_5 b).2.1 := by decide +kernel
set_option maxRecDepth 20000 in
theorem kc_6 : kck1 "MenOnCradles$Rule" kT_6 10 kF_6 [472, 474, 476, 478, 480, 482, 484, 486, 488, 490] 444 167 6 = true := by decide +kernel
theorem kd_6 : ∀ a, a < 10 → ∀ b, b < 10 → a ≠ b → (kT_6 a).2.1 ≠ (kT_6 b).2.1 := by decide +kernel
set_option maxRecDepth 20000 in
theorem kc_7 : kck1 "MenOnCradles$Shop" kT_7 3 kF_7 [415, 417, 419] 407 165 7 = true := by decide +kernel
theorem kd_7 : ∀ a, a < 3 → ∀ b, b < 3 → a ≠ b → (kT_7 a).2.1 ≠ (kT_7 b).2.1 := by decide +kernel
set_option maxRecDepth 20000 in
theorem kc_8 : kck1 "MenOnCradles$Spans" kT_8 6 kF_8 [211, 213, 215, 217, 219, 221] 193 158 8 = true := by decide +kernel
theorem kd_8 : ∀ a, a < 6 → ∀ b, b < 6 → a ≠ b → (kT_8 a).2.1 ≠ (kT_8 b).2.1 := by decide +kernel
set_option maxRecDepth 20000 in
theorem kc_9 : kck1 "MenOnCradles$Tower" kT_9 7 kF_9 [658, 660, 662, 664, 666, 668, 670] 640 170 9 = true := by decide +kernel
theorem kd_9 : ∀ a, a < 7 → ∀ b, b < 7 → a ≠ b → (kT_9 a).2.1 ≠ (kT_9 b).2.1 := by decide +kernel
set_option maxRecDepth 20000 in
theorem kc_10 : kck1 "MenOnCradles" kT_10 19 kF_10 [591, 593, 595, 597, 599, 601, 603, 605, 607, 609, 611, 613, 615, 617, 619, 621, 623, 625, 627] 183 157 10 = true := by decide +kernel
theorem kd_10 : ∀ a, a < 19 → ∀ b, b < 19 → a ≠ b → (kT_10 a).2.1 ≠ (kT_10 b).2.1 := by decide +kernel
set_option maxRecDepth 20000 in
theorem kc_11 : kck1 "MenOnCradlesModel" kT_11 110 kF_11 [1946, 1948, 1950, 1952, 1954, 1956, 1958, 1960, 1962, 1964, 1966, 1968, 1970, 1972, 1974, 1976, 1978, 1980, 1982, 1984, 1986, 1988, 1990, 1992, 1994, 1996, 1998, 2000, 2002, 2004, 2006, 2008, 2010, 2012, 2014, 2016, 2018, 2020, 2022, 2024, 2026, 2028, 2030, 2032, 2034, 2036, 2038, 2040, 2042, 2044, 2046, 2048, 2050, 2052, 2054, 2056, 2058, 2060, 2062, 2064, 2066, 2068, 2070, 2072, 2074, 2076, 2078, 2080, 2082, 2084, 2086, 2088, 2090, 2092, 2094, 2096, 2098, 2100, 2102, 2104, 2106, 2108, 2110, 2112, 2114, 2116, 2118, 2120, 2122, 2124, 2126, 2128, 2130, 2132, 2134, 2136, 2138, 2140, 2142, 2144, 2146, 2148, 2150, 2152, 2154, 2156, 2158, 2160, 2162, 2164] 1806 169 11 = true := by decide +kernel
theorem kd_11 : ∀ a, a < 110 → ∀ b, b < 110 → a ≠ b → (kT_11 a).2.1 ≠ (kT_11 b).2.1 := by decide +kernel
def kflb (q : (Nat × Nat × Nat × Nat × Nat × Nat) × Nat) : Bool := match kCL[q.1.2.2.1]? with
  | none => false
  | some r => decide (q.1.2.2.2.1 < r.2.2) && kin q.2 (Cond.fieldLink (kON q.1.1) q.1.2.1 r.1 (r.2.1 q.1.2.2.2.1).2.1 (r.2.1 q.1.2.2.2.1).2.2.1) && decide ((r.2.1 q.1.2.2.2.1).2.2.2 = decide (q.1.2.2.2.2.2 ≠ 0)) && (match q.1.2.2.2.2.1 with
    | 0 => decide ((r.2.1 q.1.2.2.2.1).2.2.1 = "I") && decide (kTY q.1.2.2.1 q.1.2.2.2.1 = .int)
    | 1 => decide ((r.2.1 q.1.2.2.2.1).2.2.1 = "J") && decide (kTY q.1.2.2.1 q.1.2.2.2.1 = .long)
    | 2 => decide (av_kd (r.2.1 q.1.2.2.2.1).2.2.1 = 2) && (match kTY q.1.2.2.1 q.1.2.2.2.1 with
      | .array _ => true
      | .object _ => true
      | _ => false)
    | 3 => decide ((r.2.1 q.1.2.2.2.1).2.2.1 = "Z") && decide (kTY q.1.2.2.1 q.1.2.2.2.1 = .boolean)
    | _ => false)
set_option maxRecDepth 20000 in
theorem kfl_all : (kFL.zip kFLp).all kflb = true := by decide +kernel
set_option maxRecDepth 20000 in
theorem kki_all : (kKI.zip kKIp).all (fun q => kin q.2 (Cond.constant (kON q.1.1) q.1.2.1 q.1.2.2)) = true := by decide +kernel
set_option maxRecDepth 20000 in
theorem kkl_all : (kKL.zip kKLp).all (fun q => kin q.2 (Cond.constantLong (kON q.1.1) q.1.2.1 q.1.2.2)) = true := by decide +kernel
set_option maxRecDepth 20000 in
theorem kck_all : (kCK.zip kCKp).all (fun q => match kCL[q.1.2.2]? with
  | none => false
  | some r => kin q.2 (Cond.classLink (kON q.1.1) q.1.2.1 r.1)) = true := by decide +kernel
set_option maxRecDepth 20000 in
theorem kal_all : (kAL.zip kALp).all (fun q => (decide (q.1.2.2 = 104) && kin q.2 (Cond.classLink (kON q.1.1) q.1.2.1 (kON 9))) || (decide (q.1.2.2 = 105) && kin q.2 (Cond.classLink (kON q.1.1) q.1.2.1 (kON 0)))) = true := by decide +kernel
set_option maxRecDepth 20000 in
theorem kol_all : (kOL.zip kOLp).all (fun q => kin q.2 (Cond.methodLink (kON q.1.1) q.1.2 Lib.objectInit)) = true := by decide +kernel
theorem koi : (kin 188 (Cond.instanceMethod Lib.objectInit) && kin 189 (Cond.code Lib.objectInit ⟨#[0xb1]⟩ 1 none)) = true := by decide +kernel
theorem kac : (kin 224 (Cond.arrayClass .int) && kin 405 (Cond.arrayClass .long) && kin 318 (Cond.arrayClass .char) && kin 342 (Cond.arrayClass .boolean)) = true := by decide +kernel
