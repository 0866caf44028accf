def wsX9_card : List Cond := .code yX9_card cX9_card 3 (some .int) :: ((wsX9_card_r1 ++ wsX9_card_r2) ++ wsX90)
def wsX9_at : List Cond := .code yX9_at cX9_at 3 (some .int) :: ([.fieldLink RX9 7 "StoryWallModel" "s" "[I", .methodLink RX9 48 yX9_in, .static yX9_in, .initialized RX9, .code yX9_in cX9_in 3 (some .boolean), .methodLink RX9 55 yX9_row, .static yX9_row, .code yX9_row cX9_row 1 (some .int)] ++ wsX90)
def wsX9_fewest : List Cond := .code yX9_fewest cX9_fewest 6 (some .int) :: ([.fieldLink RX9 62 "StoryWallModel" "straightMany" "I", .fieldLink RX9 34 "StoryWallModel" "longest" "[I", .fieldLink RX9 28 "StoryWallModel" "straight" "[I", .methodLink RX9 69 yX9_layStraight, .instanceMethod yX9_layStraight, .selects RX9 yX9_layStraight yX9_layStraight, .initialized RX9, .code yX9_layStraight cX9_layStraight 3 none, .fieldLink RX9 52 "StoryWallModel" "onWall" "I", .fieldLink RX9 22 "StoryWallModel" "order" "[I", .methodLink RX9 59 yX9_layOrder, .instanceMethod yX9_layOrder, .selects RX9 yX9_layOrder yX9_layOrder, .code yX9_layOrder cX9_layOrder 4 none, .fieldLink RX9 25 "StoryWallModel" "rank" "[I", .fieldLink RX9 7 "StoryWallModel" "s" "[I", .methodLink RX9 55 yX9_row, .static yX9_row, .code yX9_row cX9_row 1 (some .int), .methodLink RX9 65 yX9_of, .instanceMethod yX9_of, .selects RX9 yX9_of yX9_of, .code yX9_of cX9_of 3 (some .int)] ++ wsX90)
def wsX9_threadHoles : List Cond := .code yX9_threadHoles cX9_threadHoles 5 (some .int) :: ([.fieldLink RX9 52 "StoryWallModel" "onWall" "I", .fieldLink RX9 22 "StoryWallModel" "order" "[I", .fieldLink RX9 7 "StoryWallModel" "s" "[I", .methodLink RX9 59 yX9_layOrder, .instanceMethod yX9_layOrder, .selects RX9 yX9_layOrder yX9_layOrder, .initialized RX9, .code yX9_layOrder cX9_layOrder 4 none, .fieldLink RX9 25 "StoryWallModel" "rank" "[I", .methodLink RX9 55 yX9_row, .static yX9_row, .code yX9_row cX9_row 1 (some .int), .methodLink RX9 65 yX9_of, .instanceMethod yX9_of, .selects RX9 yX9_of yX9_of, .code yX9_of cX9_of 3 (some .int), .methodLink RX9 73 yX9_sceneOf, .instanceMethod yX9_sceneOf, .selects RX9 yX9_sceneOf yX9_sceneOf, .code yX9_sceneOf cX9_sceneOf 5 (some .int)] ++ wsX90)
def wsX9_timeHoles : List Cond := .code yX9_timeHoles cX9_timeHoles 4 (some .int) :: ([.fieldLink RX9 62 "StoryWallModel" "straightMany" "I", .fieldLink RX9 28 "StoryWallModel" "straight" "[I", .fieldLink RX9 7 "StoryWallModel" "s" "[I", .methodLink RX9 69 yX9_layStraight, .instanceMethod yX9_layStraight, .selects RX9 yX9_layStraight yX9_layStraight, .initialized RX9, .code yX9_layStraight cX9_layStraight 3 none, .fieldLink RX9 52 "StoryWallModel" "onWall" "I", .fieldLink RX9 22 "StoryWallModel" "order" "[I", .methodLink RX9 59 yX9_layOrder, .instanceMethod yX9_layOrder, .selects RX9 yX9_layOrder yX9_layOrder, .code yX9_layOrder cX9_layOrder 4 none, .fieldLink RX9 25 "StoryWallModel" "rank" "[I", .methodLink RX9 55 yX9_row, .static yX9_row, .code yX9_row cX9_row 1 (some .int), .methodLink RX9 65 yX9_of, .instanceMethod yX9_of, .selects RX9 yX9_of yX9_of, .code yX9_of cX9_of 3 (some .int)] ++ wsX90)
def wsX9_cardsOf : List Cond := .code yX9_cardsOf cX9_cardsOf 6 (some .int) :: ([.fieldLink RX9 7 "StoryWallModel" "s" "[I", .fieldLink RX9 25 "StoryWallModel" "rank" "[I", .methodLink RX9 59 yX9_layOrder, .instanceMethod yX9_layOrder, .selects RX9 yX9_layOrder yX9_layOrder, .initialized RX9, .code yX9_layOrder cX9_layOrder 4 none, .fieldLink RX9 52 "StoryWallModel" "onWall" "I", .fieldLink RX9 22 "StoryWallModel" "order" "[I", .methodLink RX9 55 yX9_row, .static yX9_row, .code yX9_row cX9_row 1 (some .int), .methodLink RX9 65 yX9_of, .instanceMethod yX9_of, .selects RX9 yX9_of yX9_of, .code yX9_of cX9_of 3 (some .int)] ++ wsX90)
def wsX9_thread_r1 : List Cond := [Cond.fieldLink RX9 62 "StoryWallModel" "straightMany" "I", Cond.methodLink RX9 48 yX9_in, Cond.static yX9_in, Cond.initialized RX9, Cond.code yX9_in cX9_in 3 (some .boolean), Cond.methodLink RX9 155 yX9_cardsOf, Cond.instanceMethod yX9_cardsOf, Cond.selects RX9 yX9_cardsOf yX9_cardsOf, Cond.code yX9_cardsOf cX9_cardsOf 6 (some .int), Cond.fieldLink RX9 7 "StoryWallModel" "s" "[I", Cond.fieldLink RX9 25 "StoryWallModel" "rank" "[I", Cond.methodLink RX9 59 yX9_layOrder, Cond.instanceMethod yX9_layOrder, Cond.selects RX9 yX9_layOrder yX9_layOrder, Cond.code yX9_layOrder cX9_layOrder 4 none, Cond.fieldLink RX9 52 "StoryWallModel" "onWall" "I", Cond.fieldLink RX9 22 "StoryWallModel" "order" "[I", Cond.methodLink RX9 55 yX9_row, Cond.static yX9_row, Cond.code yX9_row cX9_row 1 (some .int), Cond.methodLink RX9 65 yX9_of, Cond.instanceMethod yX9_of, Cond.selects RX9 yX9_of yX9_of, Cond.code yX9_of cX9_of 3 (some .int)]
def wsX9_thread_r2 : List Cond := [Cond.methodLink RX9 69 yX9_layStraight, Cond.instanceMethod yX9_layStraight, Cond.selects RX9 yX9_layStraight yX9_layStraight, Cond.code yX9_layStraight cX9_layStraight 3 none, Cond.fieldLink RX9 28 "StoryWallModel" "straight" "[I", Cond.methodLink RX9 76 yX9_breaks, Cond.instanceMethod yX9_breaks, Cond.selects RX9 yX9_breaks yX9_breaks, Cond.code yX9_breaks cX9_breaks 7 (some .int), Cond.methodLink RX9 73 yX9_sceneOf, Cond.instanceMethod yX9_sceneOf, Cond.selects RX9 yX9_sceneOf yX9_sceneOf, Cond.code yX9_sceneOf cX9_sceneOf 5 (some .int), Cond.methodLink RX9 158 yX9_fewest, Cond.instanceMethod yX9_fewest, Cond.selects RX9 yX9_fewest yX9_fewest, Cond.code yX9_fewest cX9_fewest 6 (some .int), Cond.fieldLink RX9 34 "StoryWallModel" "longest" "[I", Cond.methodLink RX9 161 yX9_threadHoles, Cond.instanceMethod yX9_threadHoles, Cond.selects RX9 yX9_threadHoles yX9_threadHoles, Cond.code yX9_threadHoles cX9_threadHoles 5 (some .int), Cond.methodLink RX9 164 yX9_timeHoles, Cond.instanceMethod yX9_timeHoles]
def wsX9_thread_r3 : List Cond := [Cond.selects RX9 yX9_timeHoles yX9_timeHoles, Cond.code yX9_timeHoles cX9_timeHoles 4 (some .int)]
def wsX9_thread : List Cond := .code yX9_thread cX9_thread 3 (some .int) :: ((wsX9_thread_r1 ++ (wsX9_thread_r2 ++ wsX9_thread_r3)) ++ wsX90)
def wsX9_wordsIn : List Cond := .code yX9_wordsIn cX9_wordsIn 4 (some .int) :: ([.fieldLink RX9 7 "StoryWallModel" "s" "[I", .methodLink RX9 55 yX9_row, .static yX9_row, .initialized RX9, .code yX9_row cX9_row 1 (some .int), .methodLink RX9 65 yX9_of, .instanceMethod yX9_of, .selects RX9 yX9_of yX9_of, .code yX9_of cX9_of 3 (some .int)] ++ wsX90)
def wsX9_tensionIn : List Cond := .code yX9_tensionIn cX9_tensionIn 5 (some .float) :: ([.fieldLink RX9 7 "StoryWallModel" "s" "[I", .methodLink RX9 55 yX9_row, .static yX9_row, .initialized RX9, .code yX9_row cX9_row 1 (some .int), .methodLink RX9 65 yX9_of, .instanceMethod yX9_of, .selects RX9 yX9_of yX9_of, .code yX9_of cX9_of 3 (some .int), .methodLink RX9 167 yX9_wordsIn, .instanceMethod yX9_wordsIn, .selects RX9 yX9_wordsIn yX9_wordsIn, .code yX9_wordsIn cX9_wordsIn 4 (some .int)] ++ wsX90)
def wsX9_lastScene : List Cond := .code yX9_lastScene cX9_lastScene 4 (some .int) :: ([.fieldLink RX9 7 "StoryWallModel" "s" "[I", .methodLink RX9 55 yX9_row, .static yX9_row, .initialized RX9, .code yX9_row cX9_row 1 (some .int)] ++ wsX90)
def wsX9_isRising : List Cond := .code yX9_isRising cX9_isRising 3 (some .boolean) :: ([.fieldLink RX9 7 "StoryWallModel" "s" "[I", .constantFloat RX9 177 (1120403456), .methodLink RX9 170 yX9_lastScene, .instanceMethod yX9_lastScene, .selects RX9 yX9_lastScene yX9_lastScene, .initialized RX9, .code yX9_lastScene cX9_lastScene 4 (some .int), .methodLink RX9 55 yX9_row, .static yX9_row, .code yX9_row cX9_row 1 (some .int), .methodLink RX9 173 yX9_tensionIn, .instanceMethod yX9_tensionIn, .selects RX9 yX9_tensionIn yX9_tensionIn, .code yX9_tensionIn cX9_tensionIn 5 (some .float), .methodLink RX9 65 yX9_of, .instanceMethod yX9_of, .selects RX9 yX9_of yX9_of, .code yX9_of cX9_of 3 (some .int), .methodLink RX9 167 yX9_wordsIn, .instanceMethod yX9_wordsIn, .selects RX9 yX9_wordsIn yX9_wordsIn, .code yX9_wordsIn cX9_wordsIn 4 (some .int)] ++ wsX90)
def wsX9_climb_r1 : List Cond := [Cond.fieldLink RX9 7 "StoryWallModel" "s" "[I", Cond.methodLink RX9 55 yX9_row, Cond.static yX9_row, Cond.initialized RX9, Cond.code yX9_row cX9_row 1 (some .int), Cond.methodLink RX9 178 yX9_isRising, Cond.instanceMethod yX9_isRising, Cond.selects RX9 yX9_isRising yX9_isRising, Cond.code yX9_isRising cX9_isRising 3 (some .boolean), Cond.constantFloat RX9 177 (1120403456), Cond.methodLink RX9 170 yX9_lastScene, Cond.instanceMethod yX9_lastScene, Cond.selects RX9 yX9_lastScene yX9_lastScene, Cond.code yX9_lastScene cX9_lastScene 4 (some .int), Cond.methodLink RX9 173 yX9_tensionIn, Cond.instanceMethod yX9_tensionIn, Cond.selects RX9 yX9_tensionIn yX9_tensionIn, Cond.code yX9_tensionIn cX9_tensionIn 5 (some .float), Cond.methodLink RX9 65 yX9_of, Cond.instanceMethod yX9_of, Cond.selects RX9 yX9_of yX9_of, Cond.code yX9_of cX9_of 3 (some .int), Cond.methodLink RX9 167 yX9_wordsIn, Cond.instanceMethod yX9_wordsIn]
def wsX9_climb_r2 : List Cond := [Cond.selects RX9 yX9_wordsIn yX9_wordsIn, Cond.code yX9_wordsIn cX9_wordsIn 4 (some .int)]
def wsX9_climb : List Cond := .code yX9_climb cX9_climb 4 (some .int) :: ((wsX9_climb_r1 ++ wsX9_climb_r2) ++ wsX90)
def wsX9_isHole : List Cond := .code yX9_isHole cX9_isHole 4 (some .boolean) :: ([.fieldLink RX9 7 "StoryWallModel" "s" "[I", .methodLink RX9 55 yX9_row, .static yX9_row, .initialized RX9, .code yX9_row cX9_row 1 (some .int), .methodLink RX9 170 yX9_lastScene, .instanceMethod yX9_lastScene, .selects RX9 yX9_lastScene yX9_lastScene, .code yX9_lastScene cX9_lastScene 4 (some .int)] ++ wsX90)
def wsX9_threadsIn : List Cond := .code yX9_threadsIn cX9_threadsIn 4 (some .int) :: ([.fieldLink RX9 7 "StoryWallModel" "s" "[I", .methodLink RX9 55 yX9_row, .static yX9_row, .initialized RX9, .code yX9_row cX9_row 1 (some .int), .methodLink RX9 65 yX9_of, .instanceMethod yX9_of, .selects RX9 yX9_of yX9_of, .code yX9_of cX9_of 3 (some .int)] ++ wsX90)
def wsX9_breaksIn_r1 : List Cond := [Cond.methodLink RX9 76 yX9_breaks, Cond.instanceMethod yX9_breaks, Cond.selects RX9 yX9_breaks yX9_breaks, Cond.initialized RX9, Cond.code yX9_breaks cX9_breaks 7 (some .int), Cond.fieldLink RX9 62 "StoryWallModel" "straightMany" "I", Cond.fieldLink RX9 28 "StoryWallModel" "straight" "[I", Cond.methodLink RX9 69 yX9_layStraight, Cond.instanceMethod yX9_layStraight, Cond.selects RX9 yX9_layStraight yX9_layStraight, Cond.code yX9_layStraight cX9_layStraight 3 none, Cond.fieldLink RX9 52 "StoryWallModel" "onWall" "I", Cond.fieldLink RX9 22 "StoryWallModel" "order" "[I", Cond.methodLink RX9 59 yX9_layOrder, Cond.instanceMethod yX9_layOrder, Cond.selects RX9 yX9_layOrder yX9_layOrder, Cond.code yX9_layOrder cX9_layOrder 4 none, Cond.fieldLink RX9 25 "StoryWallModel" "rank" "[I", Cond.fieldLink RX9 7 "StoryWallModel" "s" "[I", Cond.methodLink RX9 55 yX9_row, Cond.static yX9_row, Cond.code yX9_row cX9_row 1 (some .int), Cond.methodLink RX9 65 yX9_of, Cond.instanceMethod yX9_of]
def wsX9_breaksIn_r2 : List Cond := [Cond.selects RX9 yX9_of yX9_of, Cond.code yX9_of cX9_of 3 (some .int), Cond.methodLink RX9 73 yX9_sceneOf, Cond.instanceMethod yX9_sceneOf, Cond.selects RX9 yX9_sceneOf yX9_sceneOf, Cond.code yX9_sceneOf cX9_sceneOf 5 (some .int)]
def wsX9_breaksIn : List Cond := .code yX9_breaksIn cX9_breaksIn 4 (some .int) :: ((wsX9_breaksIn_r1 ++ wsX9_breaksIn_r2) ++ wsX90)
def wsX9_scene_r1 : List Cond := [Cond.fieldLink RX9 7 "StoryWallModel" "s" "[I", Cond.methodLink RX9 48 yX9_in, Cond.static yX9_in, Cond.initialized RX9, Cond.code yX9_in cX9_in 3 (some .boolean), Cond.methodLink RX9 55 yX9_row, Cond.static yX9_row, Cond.code yX9_row cX9_row 1 (some .int), Cond.methodLink RX9 167 yX9_wordsIn, Cond.instanceMethod yX9_wordsIn, Cond.selects RX9 yX9_wordsIn yX9_wordsIn, Cond.code yX9_wordsIn cX9_wordsIn 4 (some .int), Cond.methodLink RX9 65 yX9_of, Cond.instanceMethod yX9_of, Cond.selects RX9 yX9_of yX9_of, Cond.code yX9_of cX9_of 3 (some .int), Cond.methodLink RX9 181 yX9_threadsIn, Cond.instanceMethod yX9_threadsIn, Cond.selects RX9 yX9_threadsIn yX9_threadsIn, Cond.code yX9_threadsIn cX9_threadsIn 4 (some .int), Cond.methodLink RX9 184 yX9_isHole, Cond.instanceMethod yX9_isHole, Cond.selects RX9 yX9_isHole yX9_isHole, Cond.code yX9_isHole cX9_isHole 4 (some .boolean)]
def wsX9_scene_r2 : List Cond := [Cond.methodLink RX9 170 yX9_lastScene, Cond.instanceMethod yX9_lastScene, Cond.selects RX9 yX9_lastScene yX9_lastScene, Cond.code yX9_lastScene cX9_lastScene 4 (some .int), Cond.methodLink RX9 178 yX9_isRising, Cond.instanceMethod yX9_isRising, Cond.selects RX9 yX9_isRising yX9_isRising, Cond.code yX9_isRising cX9_isRising 3 (some .boolean), Cond.constantFloat RX9 177 (1120403456), Cond.methodLink RX9 173 yX9_tensionIn, Cond.instanceMethod yX9_tensionIn, Cond.selects RX9 yX9_tensionIn yX9_tensionIn, Cond.code yX9_tensionIn cX9_tensionIn 5 (some .float), Cond.methodLink RX9 187 yX9_breaksIn, Cond.instanceMethod yX9_breaksIn, Cond.selects RX9 yX9_breaksIn yX9_breaksIn, Cond.code yX9_breaksIn cX9_breaksIn 4 (some .int), Cond.methodLink RX9 76 yX9_breaks, Cond.instanceMethod yX9_breaks, Cond.selects RX9 yX9_breaks yX9_breaks, Cond.code yX9_breaks cX9_breaks 7 (some .int), Cond.fieldLink RX9 62 "StoryWallModel" "straightMany" "I", Cond.fieldLink RX9 28 "StoryWallModel" "straight" "[I", Cond.methodLink RX9 69 yX9_layStraight]
def wsX9_scene_r3 : List Cond := [Cond.instanceMethod yX9_layStraight, Cond.selects RX9 yX9_layStraight yX9_layStraight, Cond.code yX9_layStraight cX9_layStraight 3 none, Cond.fieldLink RX9 52 "StoryWallModel" "onWall" "I", Cond.fieldLink RX9 22 "StoryWallModel" "order" "[I", Cond.methodLink RX9 59 yX9_layOrder, Cond.instanceMethod yX9_layOrder, Cond.selects RX9 yX9_layOrder yX9_layOrder, Cond.code yX9_layOrder cX9_layOrder 4 none, Cond.fieldLink RX9 25 "StoryWallModel" "rank" "[I", Cond.methodLink RX9 73 yX9_sceneOf, Cond.instanceMethod yX9_sceneOf, Cond.selects RX9 yX9_sceneOf yX9_sceneOf, Cond.code yX9_sceneOf cX9_sceneOf 5 (some .int), Cond.methodLink RX9 190 yX9_climb, Cond.instanceMethod yX9_climb, Cond.selects RX9 yX9_climb yX9_climb, Cond.code yX9_climb cX9_climb 4 (some .int)]
def wsX9_scene : List Cond := .code yX9_scene cX9_scene 3 (some .int) :: ((wsX9_scene_r1 ++ (wsX9_scene_r2 ++ wsX9_scene_r3)) ++ wsX90)
def wsX9_tension : List Cond := .code yX9_tension cX9_tension 2 (some .float) :: ([.fieldLink RX9 7 "StoryWallModel" "s" "[I", .constantFloat RX9 193 (3212836864), .methodLink RX9 48 yX9_in, .static yX9_in, .initialized RX9, .code yX9_in cX9_in 3 (some .boolean), .methodLink RX9 55 yX9_row, .static yX9_row, .code yX9_row cX9_row 1 (some .int), .methodLink RX9 173 yX9_tensionIn, .instanceMethod yX9_tensionIn, .selects RX9 yX9_tensionIn yX9_tensionIn, .code yX9_tensionIn cX9_tensionIn 5 (some .float), .methodLink RX9 65 yX9_of, .instanceMethod yX9_of, .selects RX9 yX9_of yX9_of, .code yX9_of cX9_of 3 (some .int), .methodLink RX9 167 yX9_wordsIn, .instanceMethod yX9_wordsIn, .selects RX9 yX9_wordsIn yX9_wordsIn, .code yX9_wordsIn cX9_wordsIn 4 (some .int)] ++ wsX90)
def wsX9_broken_r1 : List Cond := [Cond.fieldLink RX9 7 "StoryWallModel" "s" "[I", Cond.methodLink RX9 55 yX9_row, Cond.static yX9_row, Cond.initialized RX9, Cond.code yX9_row cX9_row 1 (some .int), Cond.methodLink RX9 65 yX9_of, Cond.instanceMethod yX9_of, Cond.selects RX9 yX9_of yX9_of, Cond.code yX9_of cX9_of 3 (some .int), Cond.methodLink RX9 76 yX9_breaks, Cond.instanceMethod yX9_breaks, Cond.selects RX9 yX9_breaks yX9_breaks, Cond.code yX9_breaks cX9_breaks 7 (some .int), Cond.fieldLink RX9 62 "StoryWallModel" "straightMany" "I", Cond.fieldLink RX9 28 "StoryWallModel" "straight" "[I", Cond.methodLink RX9 69 yX9_layStraight, Cond.instanceMethod yX9_layStraight, Cond.selects RX9 yX9_layStraight yX9_layStraight, Cond.code yX9_layStraight cX9_layStraight 3 none, Cond.fieldLink RX9 52 "StoryWallModel" "onWall" "I", Cond.fieldLink RX9 22 "StoryWallModel" "order" "[I", Cond.methodLink RX9 59 yX9_layOrder, Cond.instanceMethod yX9_layOrder, Cond.selects RX9 yX9_layOrder yX9_layOrder]
def wsX9_broken_r2 : List Cond := [Cond.code yX9_layOrder cX9_layOrder 4 none, Cond.fieldLink RX9 25 "StoryWallModel" "rank" "[I", Cond.methodLink RX9 73 yX9_sceneOf, Cond.instanceMethod yX9_sceneOf, Cond.selects RX9 yX9_sceneOf yX9_sceneOf, Cond.code yX9_sceneOf cX9_sceneOf 5 (some .int)]
def wsX9_broken : List Cond := .code yX9_broken cX9_broken 7 (some .int) :: ((wsX9_broken_r1 ++ wsX9_broken_r2) ++ wsX90)
def wsX9_tried_r1 : List Cond := [Cond.fieldLink RX9 19 "StoryWallModel" "aside" "[I", Cond.fieldLink RX9 7 "StoryWallModel" "s" "[I", Cond.methodLink RX9 128 yX9_takeOff, Cond.instanceMethod yX9_takeOff, Cond.selects RX9 yX9_takeOff yX9_takeOff, Cond.initialized RX9, Cond.code yX9_takeOff cX9_takeOff 5 none, Cond.methodLink RX9 73 yX9_sceneOf, Cond.instanceMethod yX9_sceneOf, Cond.selects RX9 yX9_sceneOf yX9_sceneOf, Cond.code yX9_sceneOf cX9_sceneOf 5 (some .int), Cond.methodLink RX9 55 yX9_row, Cond.static yX9_row, Cond.code yX9_row cX9_row 1 (some .int), Cond.methodLink RX9 122 yX9_placeOf, Cond.instanceMethod yX9_placeOf, Cond.selects RX9 yX9_placeOf yX9_placeOf, Cond.code yX9_placeOf cX9_placeOf 5 (some .int), Cond.methodLink RX9 131 yX9_putAt, Cond.instanceMethod yX9_putAt, Cond.selects RX9 yX9_putAt yX9_putAt, Cond.code yX9_putAt cX9_putAt 5 none, Cond.methodLink RX9 135 yX9_allBreaks, Cond.instanceMethod yX9_allBreaks]
def wsX9_tried_r2 : List Cond := [Cond.selects RX9 yX9_allBreaks yX9_allBreaks, Cond.code yX9_allBreaks cX9_allBreaks 3 (some .int), Cond.methodLink RX9 76 yX9_breaks, Cond.instanceMethod yX9_breaks, Cond.selects RX9 yX9_breaks yX9_breaks, Cond.code yX9_breaks cX9_breaks 7 (some .int), Cond.fieldLink RX9 62 "StoryWallModel" "straightMany" "I", Cond.fieldLink RX9 28 "StoryWallModel" "straight" "[I", Cond.methodLink RX9 69 yX9_layStraight, Cond.instanceMethod yX9_layStraight, Cond.selects RX9 yX9_layStraight yX9_layStraight, Cond.code yX9_layStraight cX9_layStraight 3 none, Cond.fieldLink RX9 52 "StoryWallModel" "onWall" "I", Cond.fieldLink RX9 22 "StoryWallModel" "order" "[I", Cond.methodLink RX9 59 yX9_layOrder, Cond.instanceMethod yX9_layOrder, Cond.selects RX9 yX9_layOrder yX9_layOrder, Cond.code yX9_layOrder cX9_layOrder 4 none, Cond.fieldLink RX9 25 "StoryWallModel" "rank" "[I", Cond.methodLink RX9 65 yX9_of, Cond.instanceMethod yX9_of, Cond.selects RX9 yX9_of yX9_of, Cond.code yX9_of cX9_of 3 (some .int)]
def wsX9_tried : List Cond := .code yX9_tried cX9_tried 6 (some .int) :: ((wsX9_tried_r1 ++ wsX9_tried_r2) ++ wsX90)
def wsX9_would_r1 : List Cond := [Cond.methodLink RX9 125 yX9_errorOf, Cond.instanceMethod yX9_errorOf, Cond.selects RX9 yX9_errorOf yX9_errorOf, Cond.initialized RX9, Cond.code yX9_errorOf cX9_errorOf 5 (some .int), Cond.fieldLink RX9 7 "StoryWallModel" "s" "[I", Cond.methodLink RX9 114 yX9_isCard, Cond.instanceMethod yX9_isCard, Cond.selects RX9 yX9_isCard yX9_isCard, Cond.code yX9_isCard cX9_isCard 2 (some .boolean), Cond.methodLink RX9 48 yX9_in, Cond.static yX9_in, Cond.code yX9_in cX9_in 3 (some .boolean), Cond.methodLink RX9 55 yX9_row, Cond.static yX9_row, Cond.code yX9_row cX9_row 1 (some .int), Cond.methodLink RX9 73 yX9_sceneOf, Cond.instanceMethod yX9_sceneOf, Cond.selects RX9 yX9_sceneOf yX9_sceneOf, Cond.code yX9_sceneOf cX9_sceneOf 5 (some .int), Cond.methodLink RX9 194 yX9_tried, Cond.instanceMethod yX9_tried, Cond.selects RX9 yX9_tried yX9_tried, Cond.code yX9_tried cX9_tried 6 (some .int)]
def wsX9_would_r2 : List Cond := [Cond.fieldLink RX9 19 "StoryWallModel" "aside" "[I", Cond.methodLink RX9 128 yX9_takeOff, Cond.instanceMethod yX9_takeOff, Cond.selects RX9 yX9_takeOff yX9_takeOff, Cond.code yX9_takeOff cX9_takeOff 5 none, Cond.methodLink RX9 122 yX9_placeOf, Cond.instanceMethod yX9_placeOf, Cond.selects RX9 yX9_placeOf yX9_placeOf, Cond.code yX9_placeOf cX9_placeOf 5 (some .int), Cond.methodLink RX9 131 yX9_putAt, Cond.instanceMethod yX9_putAt, Cond.selects RX9 yX9_putAt yX9_putAt, Cond.code yX9_putAt cX9_putAt 5 none, Cond.methodLink RX9 135 yX9_allBreaks, Cond.instanceMethod yX9_allBreaks, Cond.selects RX9 yX9_allBreaks yX9_allBreaks, Cond.code yX9_allBreaks cX9_allBreaks 3 (some .int), Cond.methodLink RX9 76 yX9_breaks, Cond.instanceMethod yX9_breaks, Cond.selects RX9 yX9_breaks yX9_breaks, Cond.code yX9_breaks cX9_breaks 7 (some .int), Cond.fieldLink RX9 62 "StoryWallModel" "straightMany" "I", Cond.fieldLink RX9 28 "StoryWallModel" "straight" "[I", Cond.methodLink RX9 69 yX9_layStraight]
def wsX9_would_r3 : List Cond := [Cond.instanceMethod yX9_layStraight, Cond.selects RX9 yX9_layStraight yX9_layStraight, Cond.code yX9_layStraight cX9_layStraight 3 none, Cond.fieldLink RX9 52 "StoryWallModel" "onWall" "I", Cond.fieldLink RX9 22 "StoryWallModel" "order" "[I", Cond.methodLink RX9 59 yX9_layOrder, Cond.instanceMethod yX9_layOrder, Cond.selects RX9 yX9_layOrder yX9_layOrder, Cond.code yX9_layOrder cX9_layOrder 4 none, Cond.fieldLink RX9 25 "StoryWallModel" "rank" "[I", Cond.methodLink RX9 65 yX9_of, Cond.instanceMethod yX9_of, Cond.selects RX9 yX9_of yX9_of, Cond.code yX9_of cX9_of 3 (some .int)]
def wsX9_would : List Cond := .code yX9_would cX9_would 5 (some .int) :: ((wsX9_would_r1 ++ (wsX9_would_r2 ++ wsX9_would_r3)) ++ wsX90)
def wsX9_best_r1 : List Cond := [Cond.methodLink RX9 114 yX9_isCard, Cond.instanceMethod yX9_isCard, Cond.selects RX9 yX9_isCard yX9_isCard, Cond.initialized RX9, Cond.code yX9_isCard cX9_isCard 2 (some .boolean), Cond.fieldLink RX9 7 "StoryWallModel" "s" "[I", Cond.methodLink RX9 48 yX9_in, Cond.static yX9_in, Cond.code yX9_in cX9_in 3 (some .boolean), Cond.methodLink RX9 125 yX9_errorOf, Cond.instanceMethod yX9_errorOf, Cond.selects RX9 yX9_errorOf yX9_errorOf, Cond.code yX9_errorOf cX9_errorOf 5 (some .int), Cond.methodLink RX9 55 yX9_row, Cond.static yX9_row, Cond.code yX9_row cX9_row 1 (some .int), Cond.methodLink RX9 73 yX9_sceneOf, Cond.instanceMethod yX9_sceneOf, Cond.selects RX9 yX9_sceneOf yX9_sceneOf, Cond.code yX9_sceneOf cX9_sceneOf 5 (some .int), Cond.methodLink RX9 194 yX9_tried, Cond.instanceMethod yX9_tried, Cond.selects RX9 yX9_tried yX9_tried, Cond.code yX9_tried cX9_tried 6 (some .int)]
def wsX9_best_r2 : List Cond := [Cond.fieldLink RX9 19 "StoryWallModel" "aside" "[I", Cond.methodLink RX9 128 yX9_takeOff, Cond.instanceMethod yX9_takeOff, Cond.selects RX9 yX9_takeOff yX9_takeOff, Cond.code yX9_takeOff cX9_takeOff 5 none, Cond.methodLink RX9 122 yX9_placeOf, Cond.instanceMethod yX9_placeOf, Cond.selects RX9 yX9_placeOf yX9_placeOf, Cond.code yX9_placeOf cX9_placeOf 5 (some .int), Cond.methodLink RX9 131 yX9_putAt, Cond.instanceMethod yX9_putAt, Cond.selects RX9 yX9_putAt yX9_putAt, Cond.code yX9_putAt cX9_putAt 5 none, Cond.methodLink RX9 135 yX9_allBreaks, Cond.instanceMethod yX9_allBreaks, Cond.selects RX9 yX9_allBreaks yX9_allBreaks, Cond.code yX9_allBreaks cX9_allBreaks 3 (some .int), Cond.methodLink RX9 76 yX9_breaks, Cond.instanceMethod yX9_breaks, Cond.selects RX9 yX9_breaks yX9_breaks, Cond.code yX9_breaks cX9_breaks 7 (some .int), Cond.fieldLink RX9 62 "StoryWallModel" "straightMany" "I", Cond.fieldLink RX9 28 "StoryWallModel" "straight" "[I", Cond.methodLink RX9 69 yX9_layStraight]
def wsX9_best_r3 : List Cond := [Cond.instanceMethod yX9_layStraight, Cond.selects RX9 yX9_layStraight yX9_layStraight, Cond.code yX9_layStraight cX9_layStraight 3 none, Cond.fieldLink RX9 52 "StoryWallModel" "onWall" "I", Cond.fieldLink RX9 22 "StoryWallModel" "order" "[I", Cond.methodLink RX9 59 yX9_layOrder, Cond.instanceMethod yX9_layOrder, Cond.selects RX9 yX9_layOrder yX9_layOrder, Cond.code yX9_layOrder cX9_layOrder 4 none, Cond.fieldLink RX9 25 "StoryWallModel" "rank" "[I", Cond.methodLink RX9 65 yX9_of, Cond.instanceMethod yX9_of, Cond.selects RX9 yX9_of yX9_of, Cond.code yX9_of cX9_of 3 (some .int)]
def wsX9_best : List Cond := .code yX9_best cX9_best 7 (some .int) :: ((wsX9_best_r1 ++ (wsX9_best_r2 ++ wsX9_best_r3)) ++ wsX90)
def wsX9_holes_r1 : List Cond := [Cond.methodLink RX9 164 yX9_timeHoles, Cond.instanceMethod yX9_timeHoles, Cond.selects RX9 yX9_timeHoles yX9_timeHoles, Cond.initialized RX9, Cond.code yX9_timeHoles cX9_timeHoles 4 (some .int), Cond.fieldLink RX9 62 "StoryWallModel" "straightMany" "I", Cond.fieldLink RX9 28 "StoryWallModel" "straight" "[I", Cond.fieldLink RX9 7 "StoryWallModel" "s" "[I", Cond.methodLink RX9 69 yX9_layStraight, Cond.instanceMethod yX9_layStraight, Cond.selects RX9 yX9_layStraight yX9_layStraight, Cond.code yX9_layStraight cX9_layStraight 3 none, Cond.fieldLink RX9 52 "StoryWallModel" "onWall" "I", Cond.fieldLink RX9 22 "StoryWallModel" "order" "[I", Cond.methodLink RX9 59 yX9_layOrder, Cond.instanceMethod yX9_layOrder, Cond.selects RX9 yX9_layOrder yX9_layOrder, Cond.code yX9_layOrder cX9_layOrder 4 none, Cond.fieldLink RX9 25 "StoryWallModel" "rank" "[I", Cond.methodLink RX9 55 yX9_row, Cond.static yX9_row, Cond.code yX9_row cX9_row 1 (some .int), Cond.methodLink RX9 65 yX9_of, Cond.instanceMethod yX9_of]
def wsX9_holes_r2 : List Cond := [Cond.selects RX9 yX9_of yX9_of, Cond.code yX9_of cX9_of 3 (some .int), Cond.methodLink RX9 161 yX9_threadHoles, Cond.instanceMethod yX9_threadHoles, Cond.selects RX9 yX9_threadHoles yX9_threadHoles, Cond.code yX9_threadHoles cX9_threadHoles 5 (some .int), Cond.methodLink RX9 73 yX9_sceneOf, Cond.instanceMethod yX9_sceneOf, Cond.selects RX9 yX9_sceneOf yX9_sceneOf, Cond.code yX9_sceneOf cX9_sceneOf 5 (some .int)]
def wsX9_holes : List Cond := .code yX9_holes cX9_holes 4 (some .int) :: ((wsX9_holes_r1 ++ wsX9_holes_r2) ++ wsX90)
def wsX9_ofScenes_r1 : List Cond := [Cond.methodLink RX9 190 yX9_climb, Cond.instanceMethod yX9_climb, Cond.selects RX9 yX9_climb yX9_climb, Cond.initialized RX9, Cond.code yX9_climb cX9_climb 4 (some .int), Cond.fieldLink RX9 7 "StoryWallModel" "s" "[I", Cond.methodLink RX9 55 yX9_row, Cond.static yX9_row, Cond.code yX9_row cX9_row 1 (some .int), Cond.methodLink RX9 178 yX9_isRising, Cond.instanceMethod yX9_isRising, Cond.selects RX9 yX9_isRising yX9_isRising, Cond.code yX9_isRising cX9_isRising 3 (some .boolean), Cond.constantFloat RX9 177 (1120403456), Cond.methodLink RX9 170 yX9_lastScene, Cond.instanceMethod yX9_lastScene, Cond.selects RX9 yX9_lastScene yX9_lastScene, Cond.code yX9_lastScene cX9_lastScene 4 (some .int), Cond.methodLink RX9 173 yX9_tensionIn, Cond.instanceMethod yX9_tensionIn, Cond.selects RX9 yX9_tensionIn yX9_tensionIn, Cond.code yX9_tensionIn cX9_tensionIn 5 (some .float), Cond.methodLink RX9 65 yX9_of, Cond.instanceMethod yX9_of]
def wsX9_ofScenes_r2 : List Cond := [Cond.selects RX9 yX9_of yX9_of, Cond.code yX9_of cX9_of 3 (some .int), Cond.methodLink RX9 167 yX9_wordsIn, Cond.instanceMethod yX9_wordsIn, Cond.selects RX9 yX9_wordsIn yX9_wordsIn, Cond.code yX9_wordsIn cX9_wordsIn 4 (some .int), Cond.methodLink RX9 184 yX9_isHole, Cond.instanceMethod yX9_isHole, Cond.selects RX9 yX9_isHole yX9_isHole, Cond.code yX9_isHole cX9_isHole 4 (some .boolean)]
def wsX9_ofScenes : List Cond := .code yX9_ofScenes cX9_ofScenes 5 (some .int) :: ((wsX9_ofScenes_r1 ++ wsX9_ofScenes_r2) ++ wsX90)
def wsX9_standing_r1 : List Cond := [Cond.methodLink RX9 76 yX9_breaks, Cond.instanceMethod yX9_breaks, Cond.selects RX9 yX9_breaks yX9_breaks, Cond.initialized RX9, Cond.code yX9_breaks cX9_breaks 7 (some .int), Cond.fieldLink RX9 62 "StoryWallModel" "straightMany" "I", Cond.fieldLink RX9 28 "StoryWallModel" "straight" "[I", Cond.methodLink RX9 69 yX9_layStraight, Cond.instanceMethod yX9_layStraight, Cond.selects RX9 yX9_layStraight yX9_layStraight, Cond.code yX9_layStraight cX9_layStraight 3 none, Cond.fieldLink RX9 52 "StoryWallModel" "onWall" "I", Cond.fieldLink RX9 22 "StoryWallModel" "order" "[I", Cond.methodLink RX9 59 yX9_layOrder, Cond.instanceMethod yX9_layOrder, Cond.selects RX9 yX9_layOrder yX9_layOrder, Cond.code yX9_layOrder cX9_layOrder 4 none, Cond.fieldLink RX9 25 "StoryWallModel" "rank" "[I", Cond.fieldLink RX9 7 "StoryWallModel" "s" "[I", Cond.methodLink RX9 55 yX9_row, Cond.static yX9_row, Cond.code yX9_row cX9_row 1 (some .int), Cond.methodLink RX9 65 yX9_of, Cond.instanceMethod yX9_of]
def wsX9_standing_r2 : List Cond := [Cond.selects RX9 yX9_of yX9_of, Cond.code yX9_of cX9_of 3 (some .int), Cond.methodLink RX9 73 yX9_sceneOf, Cond.instanceMethod yX9_sceneOf, Cond.selects RX9 yX9_sceneOf yX9_sceneOf, Cond.code yX9_sceneOf cX9_sceneOf 5 (some .int)]
def wsX9_standing : List Cond := .code yX9_standing cX9_standing 3 (some .int) :: ((wsX9_standing_r1 ++ wsX9_standing_r2) ++ wsX90)
def wsX9_count_r1 : List Cond := [Cond.fieldLink RX9 7 "StoryWallModel" "s" "[I", Cond.fieldLink RX9 44 "StoryWallModel" "states" "I", Cond.fieldLink RX9 87 "StoryWallModel" "length" "I", Cond.methodLink RX9 149 yX9_wallMany, Cond.instanceMethod yX9_wallMany, Cond.selects RX9 yX9_wallMany yX9_wallMany, Cond.initialized RX9, Cond.code yX9_wallMany cX9_wallMany 1 (some .int), Cond.fieldLink RX9 52 "StoryWallModel" "onWall" "I", Cond.methodLink RX9 59 yX9_layOrder, Cond.instanceMethod yX9_layOrder, Cond.selects RX9 yX9_layOrder yX9_layOrder, Cond.code yX9_layOrder cX9_layOrder 4 none, Cond.fieldLink RX9 25 "StoryWallModel" "rank" "[I", Cond.fieldLink RX9 22 "StoryWallModel" "order" "[I", Cond.methodLink RX9 55 yX9_row, Cond.static yX9_row, Cond.code yX9_row cX9_row 1 (some .int), Cond.methodLink RX9 142 yX9_scenes, Cond.instanceMethod yX9_scenes, Cond.selects RX9 yX9_scenes yX9_scenes, Cond.code yX9_scenes cX9_scenes 3 (some .int), Cond.methodLink RX9 135 yX9_allBreaks, Cond.instanceMethod yX9_allBreaks]
def wsX9_count_r2 : List Cond := [Cond.selects RX9 yX9_allBreaks yX9_allBreaks, Cond.code yX9_allBreaks cX9_allBreaks 3 (some .int), Cond.methodLink RX9 76 yX9_breaks, Cond.instanceMethod yX9_breaks, Cond.selects RX9 yX9_breaks yX9_breaks, Cond.code yX9_breaks cX9_breaks 7 (some .int), Cond.fieldLink RX9 62 "StoryWallModel" "straightMany" "I", Cond.fieldLink RX9 28 "StoryWallModel" "straight" "[I", Cond.methodLink RX9 69 yX9_layStraight, Cond.instanceMethod yX9_layStraight, Cond.selects RX9 yX9_layStraight yX9_layStraight, Cond.code yX9_layStraight cX9_layStraight 3 none, Cond.methodLink RX9 65 yX9_of, Cond.instanceMethod yX9_of, Cond.selects RX9 yX9_of yX9_of, Cond.code yX9_of cX9_of 3 (some .int), Cond.methodLink RX9 73 yX9_sceneOf, Cond.instanceMethod yX9_sceneOf, Cond.selects RX9 yX9_sceneOf yX9_sceneOf, Cond.code yX9_sceneOf cX9_sceneOf 5 (some .int), Cond.methodLink RX9 197 yX9_holes, Cond.instanceMethod yX9_holes, Cond.selects RX9 yX9_holes yX9_holes, Cond.code yX9_holes cX9_holes 4 (some .int)]
def wsX9_count_r3 : List Cond := [Cond.methodLink RX9 164 yX9_timeHoles, Cond.instanceMethod yX9_timeHoles, Cond.selects RX9 yX9_timeHoles yX9_timeHoles, Cond.code yX9_timeHoles cX9_timeHoles 4 (some .int), Cond.methodLink RX9 161 yX9_threadHoles, Cond.instanceMethod yX9_threadHoles, Cond.selects RX9 yX9_threadHoles yX9_threadHoles, Cond.code yX9_threadHoles cX9_threadHoles 5 (some .int), Cond.methodLink RX9 201 yX9_ofScenes, Cond.instanceMethod yX9_ofScenes, Cond.selects RX9 yX9_ofScenes yX9_ofScenes, Cond.code yX9_ofScenes cX9_ofScenes 5 (some .int), Cond.methodLink RX9 190 yX9_climb, Cond.instanceMethod yX9_climb, Cond.selects RX9 yX9_climb yX9_climb, Cond.code yX9_climb cX9_climb 4 (some .int), Cond.methodLink RX9 178 yX9_isRising, Cond.instanceMethod yX9_isRising, Cond.selects RX9 yX9_isRising yX9_isRising, Cond.code yX9_isRising cX9_isRising 3 (some .boolean), Cond.constantFloat RX9 177 (1120403456), Cond.methodLink RX9 170 yX9_lastScene, Cond.instanceMethod yX9_lastScene, Cond.selects RX9 yX9_lastScene yX9_lastScene]
def wsX9_count_r4 : List Cond := [Cond.code yX9_lastScene cX9_lastScene 4 (some .int), Cond.methodLink RX9 173 yX9_tensionIn, Cond.instanceMethod yX9_tensionIn, Cond.selects RX9 yX9_tensionIn yX9_tensionIn, Cond.code yX9_tensionIn cX9_tensionIn 5 (some .float), Cond.methodLink RX9 167 yX9_wordsIn, Cond.instanceMethod yX9_wordsIn, Cond.selects RX9 yX9_wordsIn yX9_wordsIn, Cond.code yX9_wordsIn cX9_wordsIn 4 (some .int), Cond.methodLink RX9 184 yX9_isHole, Cond.instanceMethod yX9_isHole, Cond.selects RX9 yX9_isHole yX9_isHole, Cond.code yX9_isHole cX9_isHole 4 (some .boolean), Cond.methodLink RX9 204 yX9_standing, Cond.instanceMethod yX9_standing, Cond.selects RX9 yX9_standing yX9_standing, Cond.code yX9_standing cX9_standing 3 (some .int)]
def wsX9_count : List Cond := .code yX9_count cX9_count 2 (some .int) :: ((wsX9_count_r1 ++ (wsX9_count_r2 ++ (wsX9_count_r3 ++ wsX9_count_r4))) ++ wsX90)
def wsJxf58ca_isNaN_12338 : List Cond := .code yJxf58ca_isNaN_12338 cJxf58ca_isNaN_12338 1 (some .boolean) :: ([])
def wsJxf58ca_floatToIntBits_5c35a : List Cond := .code yJxf58ca_floatToIntBits_5c35a cJxf58ca_floatToIntBits_5c35a 1 (some .int) :: ([.methodLink RJxf58ca 74 ⟨"java/lang/Float", "floatToRawIntBits", "(F)I"⟩, .native ⟨"java/lang/Float", "floatToRawIntBits", "(F)I"⟩, .static ⟨"java/lang/Float", "floatToRawIntBits", "(F)I"⟩, .initialized "java/lang/Float", .constant RJxf58ca 77 (2143289344), .methodLink RJxf58ca 59 yJxf58ca_isNaN_12338, .static yJxf58ca_isNaN_12338, .initialized RJxf58ca, .code yJxf58ca_isNaN_12338 cJxf58ca_isNaN_12338 1 (some .boolean)])
def wsX9_spanBits_r1 : List Cond := [Cond.constantFloat RX9 193 (3212836864), Cond.constantFloat RX9 207 (1120534528), Cond.fieldLink RX9 7 "StoryWallModel" "s" "[I", Cond.methodLink RX9 55 yX9_row, Cond.static yX9_row, Cond.initialized RX9, Cond.code yX9_row cX9_row 1 (some .int), Cond.methodLink RX9 173 yX9_tensionIn, Cond.instanceMethod yX9_tensionIn, Cond.selects RX9 yX9_tensionIn yX9_tensionIn, Cond.code yX9_tensionIn cX9_tensionIn 5 (some .float), Cond.methodLink RX9 65 yX9_of, Cond.instanceMethod yX9_of, Cond.selects RX9 yX9_of yX9_of, Cond.code yX9_of cX9_of 3 (some .int), Cond.methodLink RX9 167 yX9_wordsIn, Cond.instanceMethod yX9_wordsIn, Cond.selects RX9 yX9_wordsIn yX9_wordsIn, Cond.code yX9_wordsIn cX9_wordsIn 4 (some .int), Cond.methodLink RX9 142 yX9_scenes, Cond.instanceMethod yX9_scenes, Cond.selects RX9 yX9_scenes yX9_scenes, Cond.code yX9_scenes cX9_scenes 3 (some .int), Cond.methodLink RX9 208 yJxf58ca_floatToIntBits_5c35a]
def wsX9_spanBits_r2 : List Cond := [Cond.static yJxf58ca_floatToIntBits_5c35a, Cond.initialized RJxf58ca, Cond.code yJxf58ca_floatToIntBits_5c35a cJxf58ca_floatToIntBits_5c35a 1 (some .int), Cond.methodLink RJxf58ca 74 ⟨"java/lang/Float", "floatToRawIntBits", "(F)I"⟩, Cond.native ⟨"java/lang/Float", "floatToRawIntBits", "(F)I"⟩, Cond.static ⟨"java/lang/Float", "floatToRawIntBits", "(F)I"⟩, Cond.initialized "java/lang/Float", Cond.constant RJxf58ca 77 (2143289344), Cond.methodLink RJxf58ca 59 yJxf58ca_isNaN_12338, Cond.static yJxf58ca_isNaN_12338, Cond.code yJxf58ca_isNaN_12338 cJxf58ca_isNaN_12338 1 (some .boolean)]
def wsX9_spanBits : List Cond := .code yX9_spanBits cX9_spanBits 5 (some .int) :: ((wsX9_spanBits_r1 ++ wsX9_spanBits_r2) ++ wsX90)
def wsJ9_max_7cf53 : List Cond := .code yJ9_max_7cf53 cJ9_max_7cf53 2 (some .int) :: ([])
def wsL_law_r1 : List Cond := [Cond.classLink RL 7 RX8, Cond.instantiable RX8 9, Cond.initialized RX8, Cond.classLink RL 10 RX9, Cond.instantiable RX9 18, Cond.initialized RX9, Cond.methodLink RL 9 yX8_init, Cond.instanceMethod yX8_init, Cond.code yX8_init cX8_init 1 none, Cond.methodLink RX8 1 objectInit, Cond.instanceMethod objectInit, Cond.code objectInit ⟨#[0xb1]⟩ 1 none, Cond.classLink RX8 7 RX4, Cond.instantiable RX4 3, Cond.initialized RX4, Cond.fieldLink RX8 10 "StoryWall" "now" "LStoryWall$State;", Cond.fieldLink RX8 16 "StoryWall" "snapshot" "LStoryWall$State;", Cond.classLink RX8 19 RX2, Cond.instantiable RX2 3, Cond.initialized RX2, Cond.fieldLink RX8 22 "StoryWall" "history" "LStoryWall$History;", Cond.classLink RX8 26 RX0, Cond.instantiable RX0 5, Cond.initialized RX0]
def wsL_law_r2 : List Cond := [Cond.fieldLink RX8 29 "StoryWall" "text" "LStoryWall$CardText;", Cond.classLink RX8 33 RX7, Cond.instantiable RX7 1, Cond.initialized RX7, Cond.fieldLink RX8 36 "StoryWall" "trial" "LStoryWall$Wall;", Cond.classLink RX8 40 RX3, Cond.instantiable RX3 10, Cond.initialized RX3, Cond.fieldLink RX8 43 "StoryWall" "reading" "LStoryWall$Reading;", Cond.classLink RX8 47 RX5, Cond.instantiable RX5 7, Cond.initialized RX5, Cond.fieldLink RX8 50 "StoryWall" "straightRow" "LStoryWall$StraightRow;", Cond.classLink RX8 54 RX6, Cond.instantiable RX6 2, Cond.initialized RX6, Cond.fieldLink RX8 57 "StoryWall" "tensions" "LStoryWall$Tensions;", Cond.fieldLink RX8 61 "StoryWall" "kept" "Z", Cond.instanceMethod yX4_init, Cond.code yX4_init cX4_init 1 none, Cond.methodLink RX4 3 objectInit, Cond.classLink RX4 9 RX1, Cond.instantiable RX1 2, Cond.initialized RX1]
def wsL_law_r3 : List Cond := [Cond.fieldLink RX4 12 "StoryWall$State" "cards" "LStoryWall$Cards;", Cond.classLink RX4 18 RX7, Cond.fieldLink RX4 21 "StoryWall$State" "wall" "LStoryWall$Wall;", Cond.arrayClass .int, Cond.fieldLink RX4 25 "StoryWall$State" "settings" "[I", Cond.instanceMethod yX1_init, Cond.code yX1_init cX1_init 1 none, Cond.methodLink RX1 3 objectInit, Cond.fieldLink RX1 9 "StoryWall$Cards" "numbers" "[I", Cond.methodLink RX4 20 yX7_init, Cond.instanceMethod yX7_init, Cond.code yX7_init cX7_init 2 none, Cond.methodLink RX7 3 objectInit, Cond.fieldLink RX7 9 "StoryWall$Wall" "slots" "[I", Cond.methodLink RX8 21 yX2_init, Cond.instanceMethod yX2_init, Cond.code yX2_init cX2_init 2 none, Cond.methodLink RX2 3 objectInit, Cond.classLink RX2 9 RX4, Cond.fieldLink RX2 11 "StoryWall$History" "states" "[LStoryWall$State;", Cond.instanceMethod yX0_init, Cond.code yX0_init cX0_init 1 none, Cond.methodLink RX0 3 objectInit, Cond.arrayClass .char]
def wsL_law_r4 : List Cond := [Cond.fieldLink RX0 9 "StoryWall$CardText" "signs" "[C", Cond.classLink RX0 15 RX1, Cond.fieldLink RX0 18 "StoryWall$CardText" "cards" "LStoryWall$Cards;", Cond.methodLink RX8 35 yX7_init, Cond.instanceMethod yX3_init, Cond.code yX3_init cX3_init 1 none, Cond.methodLink RX3 3 objectInit, Cond.classLink RX3 9 RX1, Cond.fieldLink RX3 12 "StoryWall$Reading" "cards" "LStoryWall$Cards;", Cond.fieldLink RX3 18 "StoryWall$Reading" "names" "[I", Cond.fieldLink RX3 22 "StoryWall$Reading" "slots" "[I", Cond.fieldLink RX3 25 "StoryWall$Reading" "ahead" "[I", Cond.fieldLink RX3 28 "StoryWall$Reading" "straightAhead" "[I", Cond.fieldLink RX3 31 "StoryWall$Reading" "last" "[I", Cond.fieldLink RX3 34 "StoryWall$Reading" "lastStraight" "[I", Cond.instanceMethod yX5_init, Cond.code yX5_init cX5_init 1 none, Cond.methodLink RX5 3 objectInit, Cond.fieldLink RX5 9 "StoryWall$StraightRow" "ranks" "[I", Cond.fieldLink RX5 15 "StoryWall$StraightRow" "cards" "[I", Cond.fieldLink RX5 18 "StoryWall$StraightRow" "hours" "[I", Cond.fieldLink RX5 21 "StoryWall$StraightRow" "slots" "[I", Cond.fieldLink RX5 24 "StoryWall$StraightRow" "sorted" "[I", Cond.fieldLink RX5 27 "StoryWall$StraightRow" "longest" "[I"]
def wsL_law_r5 : List Cond := [Cond.instanceMethod yX6_init, Cond.code yX6_init cX6_init 1 none, Cond.methodLink RX6 3 objectInit, Cond.arrayClass .float, Cond.fieldLink RX6 9 "StoryWall$Tensions" "values" "[F", Cond.fieldLink RX6 15 "StoryWall$Tensions" "climbs" "[I", Cond.methodLink RL 12 yX9_init, Cond.instanceMethod yX9_init, Cond.code yX9_init cX9_init 1 none, Cond.methodLink RX9 1 objectInit, Cond.fieldLink RX9 7 "StoryWallModel" "s" "[I", Cond.fieldLink RX9 13 "StoryWallModel" "before" "[I", Cond.fieldLink RX9 16 "StoryWallModel" "kept" "[I", Cond.fieldLink RX9 19 "StoryWallModel" "aside" "[I", Cond.fieldLink RX9 22 "StoryWallModel" "order" "[I", Cond.fieldLink RX9 25 "StoryWallModel" "rank" "[I", Cond.fieldLink RX9 28 "StoryWallModel" "straight" "[I", Cond.fieldLink RX9 31 "StoryWallModel" "sorted" "[I", Cond.fieldLink RX9 34 "StoryWallModel" "longest" "[I", Cond.fieldLink RX9 37 "StoryWallModel" "read" "[I", Cond.fieldLink RX9 40 "StoryWallModel" "text" "[C", Cond.methodLink RL 13 yX8_add, Cond.instanceMethod yX8_add, Cond.selects RX8 yX8_add yX8_add]
def wsL_law_r6 : List Cond := [Cond.code yX8_add cX8_add 5 (some .int), Cond.methodLink RX8 65 yX8_isThread, Cond.static yX8_isThread, Cond.code yX8_isThread cX8_isThread 1 (some .boolean), Cond.methodLink RX8 69 yX8_mayBe, Cond.static yX8_mayBe, Cond.code yX8_mayBe cX8_mayBe 2 (some .boolean), Cond.fieldLink RX8 286 "StoryWall" "LEAST" "[I", Cond.fieldLink RX8 289 "StoryWall" "MOST" "[I", Cond.methodLink RX8 77 yX1_hasRoomFor, Cond.instanceMethod yX1_hasRoomFor, Cond.selects RX1 yX1_hasRoomFor yX1_hasRoomFor, Cond.code yX1_hasRoomFor cX1_hasRoomFor 2 (some .boolean), Cond.fieldLink RX1 15 "StoryWall$Cards" "size" "I", Cond.methodLink RX8 82 yX2_record, Cond.instanceMethod yX2_record, Cond.selects RX2 yX2_record yX2_record, Cond.code yX2_record cX2_record 3 none, Cond.fieldLink RX2 18 "StoryWall$History" "size" "I", Cond.fieldLink RX2 30 "StoryWall$History" "oldest" "I", Cond.methodLink RX2 22 yX2_stateAfter, Cond.instanceMethod yX2_stateAfter, Cond.selects RX2 yX2_stateAfter yX2_stateAfter, Cond.code yX2_stateAfter cX2_stateAfter 3 (some (.object "StoryWall$State"))]
def wsL_law_r7 : List Cond := [Cond.methodLink RX2 26 yX4_copyFrom, Cond.instanceMethod yX4_copyFrom, Cond.selects RX4 yX4_copyFrom yX4_copyFrom, Cond.code yX4_copyFrom cX4_copyFrom 2 none, Cond.methodLink RX4 36 arraycopyName, Cond.native arraycopyName, Cond.static arraycopyName, Cond.initialized "java/lang/System", Cond.methodLink RX4 29 yX1_copyFrom, Cond.instanceMethod yX1_copyFrom, Cond.selects RX1 yX1_copyFrom yX1_copyFrom, Cond.code yX1_copyFrom cX1_copyFrom 2 none, Cond.methodLink RX1 19 arraycopyName, Cond.methodLink RX4 33 yX7_copyFrom, Cond.instanceMethod yX7_copyFrom, Cond.selects RX7 yX7_copyFrom yX7_copyFrom, Cond.code yX7_copyFrom cX7_copyFrom 2 none, Cond.methodLink RX7 15 arraycopyName, Cond.methodLink RX8 86 yX1_append, Cond.instanceMethod yX1_append, Cond.selects RX1 yX1_append yX1_append, Cond.code yX1_append cX1_append 7 none, Cond.methodLink RX1 29 yX1_hasRoomFor, Cond.methodLink RX1 33 yX1_put]
def wsL_law_r8 : List Cond := [Cond.instanceMethod yX1_put, Cond.selects RX1 yX1_put yX1_put, Cond.code yX1_put cX1_put 4 none, Cond.methodLink RX1 25 yX1_isNumber, Cond.instanceMethod yX1_isNumber, Cond.selects RX1 yX1_isNumber yX1_isNumber, Cond.code yX1_isNumber cX1_isNumber 3 (some .boolean), Cond.methodLink RX8 90 yX1_size, Cond.instanceMethod yX1_size, Cond.selects RX1 yX1_size yX1_size, Cond.code yX1_size cX1_size 1 (some .int), Cond.methodLink RL 17 yX9_add, Cond.instanceMethod yX9_add, Cond.selects RX9 yX9_add yX9_add, Cond.code yX9_add cX9_add 5 (some .int), Cond.methodLink RX9 48 yX9_in, Cond.static yX9_in, Cond.code yX9_in cX9_in 3 (some .boolean), Cond.methodLink RX9 80 yX9_record, Cond.instanceMethod yX9_record, Cond.selects RX9 yX9_record yX9_record, Cond.code yX9_record cX9_record 2 none, Cond.fieldLink RX9 44 "StoryWallModel" "states" "I", Cond.methodLink RX9 83 yX9_write]
def wsL_law_r9 : List Cond := [Cond.instanceMethod yX9_write, Cond.selects RX9 yX9_write yX9_write, Cond.code yX9_write cX9_write 7 none, Cond.methodLink RL 18 yX8_addAll, Cond.instanceMethod yX8_addAll, Cond.selects RX8 yX8_addAll yX8_addAll, Cond.code yX8_addAll cX8_addAll 4 (some .int), Cond.methodLink RX8 94 yX0_read, Cond.instanceMethod yX0_read, Cond.selects RX0 yX0_read yX0_read, Cond.code yX0_read cX0_read 2 (some .int), Cond.fieldLink RX0 29 "StoryWall$CardText" "position" "I", Cond.fieldLink RX0 32 "StoryWall$CardText" "faulty" "Z", Cond.fieldLink RX0 22 "StoryWall$CardText" "length" "I", Cond.methodLink RX0 26 yX1_clear, Cond.instanceMethod yX1_clear, Cond.selects RX1 yX1_clear yX1_clear, Cond.code yX1_clear cX1_clear 1 none, Cond.methodLink RX0 36 yX0_readCard, Cond.instanceMethod yX0_readCard, Cond.selects RX0 yX0_readCard yX0_readCard, Cond.code yX0_readCard cX0_readCard 6 none, Cond.methodLink RX0 43 yX0_readThread, Cond.instanceMethod yX0_readThread]
def wsL_law_r10 : List Cond := [Cond.selects RX0 yX0_readThread yX0_readThread, Cond.code yX0_readThread cX0_readThread 2 (some .int), Cond.methodLink RX0 59 yX0_hasAhead, Cond.instanceMethod yX0_hasAhead, Cond.selects RX0 yX0_hasAhead yX0_hasAhead, Cond.code yX0_hasAhead cX0_hasAhead 1 (some .boolean), Cond.methodLink RX0 47 yX0_readNumber, Cond.instanceMethod yX0_readNumber, Cond.selects RX0 yX0_readNumber yX0_readNumber, Cond.code yX0_readNumber cX0_readNumber 4 (some .int), Cond.methodLink RX0 67 yX0_digitAhead, Cond.instanceMethod yX0_digitAhead, Cond.selects RX0 yX0_digitAhead yX0_digitAhead, Cond.code yX0_digitAhead cX0_digitAhead 2 (some .int), Cond.methodLink RX0 39 yX0_readSign, Cond.instanceMethod yX0_readSign, Cond.selects RX0 yX0_readSign yX0_readSign, Cond.code yX0_readSign cX0_readSign 2 none, Cond.methodLink RX0 51 yX0_isAhead, Cond.instanceMethod yX0_isAhead, Cond.selects RX0 yX0_isAhead yX0_isAhead, Cond.code yX0_isAhead cX0_isAhead 2 (some .boolean), Cond.methodLink RX0 55 yX1_append, Cond.methodLink RX8 97 yX0_cardsRead]
def wsL_law_r11 : List Cond := [Cond.instanceMethod yX0_cardsRead, Cond.selects RX0 yX0_cardsRead yX0_cardsRead, Cond.code yX0_cardsRead cX0_cardsRead 1 (some (.object "StoryWall$Cards")), Cond.methodLink RX8 101 yX1_appendFrom, Cond.instanceMethod yX1_appendFrom, Cond.selects RX1 yX1_appendFrom yX1_appendFrom, Cond.code yX1_appendFrom cX1_appendFrom 5 none, Cond.methodLink RX1 37 yX1_number, Cond.instanceMethod yX1_number, Cond.selects RX1 yX1_number yX1_number, Cond.code yX1_number cX1_number 3 (some .int), Cond.methodLink RL 22 yX9_addAll, Cond.instanceMethod yX9_addAll, Cond.selects RX9 yX9_addAll yX9_addAll, Cond.code yX9_addAll cX9_addAll 3 (some .int), Cond.fieldLink RX9 97 "StoryWallModel" "cards" "I", Cond.methodLink RX9 110 yX9_faultOf, Cond.instanceMethod yX9_faultOf, Cond.selects RX9 yX9_faultOf yX9_faultOf, Cond.code yX9_faultOf cX9_faultOf 2 (some .int), Cond.fieldLink RX9 90 "StoryWallModel" "at" "I", Cond.fieldLink RX9 87 "StoryWallModel" "length" "I", Cond.methodLink RX9 107 yX9_readsCard, Cond.instanceMethod yX9_readsCard]
def wsL_law_r12 : List Cond := [Cond.selects RX9 yX9_readsCard yX9_readsCard, Cond.code yX9_readsCard cX9_readsCard 2 (some .boolean), Cond.methodLink RX9 93 yX9_isSign, Cond.instanceMethod yX9_isSign, Cond.selects RX9 yX9_isSign yX9_isSign, Cond.code yX9_isSign cX9_isSign 4 (some .boolean), Cond.methodLink RX9 100 yX9_number, Cond.instanceMethod yX9_number, Cond.selects RX9 yX9_number yX9_number, Cond.code yX9_number cX9_number 4 (some .int), Cond.methodLink RX9 103 yX9_comma, Cond.instanceMethod yX9_comma, Cond.selects RX9 yX9_comma yX9_comma, Cond.code yX9_comma cX9_comma 2 (some .boolean), Cond.methodLink RL 23 yX8_change, Cond.instanceMethod yX8_change, Cond.selects RX8 yX8_change yX8_change, Cond.code yX8_change cX8_change 6 (some .int), Cond.methodLink RX8 105 yX1_has, Cond.instanceMethod yX1_has, Cond.selects RX1 yX1_has yX1_has, Cond.code yX1_has cX1_has 2 (some .boolean), Cond.methodLink RX8 108 yX1_number, Cond.methodLink RX8 112 yX1_put]
def wsL_law_r13 : List Cond := [Cond.methodLink RL 27 yX9_change, Cond.instanceMethod yX9_change, Cond.selects RX9 yX9_change yX9_change, Cond.code yX9_change cX9_change 5 (some .int), Cond.methodLink RX9 114 yX9_isCard, Cond.instanceMethod yX9_isCard, Cond.selects RX9 yX9_isCard yX9_isCard, Cond.code yX9_isCard cX9_isCard 2 (some .boolean), Cond.methodLink RX9 118 yX9_isValue, Cond.static yX9_isValue, Cond.code yX9_isValue cX9_isValue 2 (some .boolean), Cond.methodLink RX9 65 yX9_of, Cond.instanceMethod yX9_of, Cond.selects RX9 yX9_of yX9_of, Cond.code yX9_of cX9_of 3 (some .int), Cond.methodLink RL 28 yX8_pin, Cond.instanceMethod yX8_pin, Cond.selects RX8 yX8_pin yX8_pin, Cond.code yX8_pin cX8_pin 5 (some .int), Cond.methodLink RX8 116 yX8_pinFault, Cond.instanceMethod yX8_pinFault, Cond.selects RX8 yX8_pinFault yX8_pinFault, Cond.code yX8_pinFault cX8_pinFault 5 (some .int), Cond.methodLink RX8 161 yX8_isScene]
def wsL_law_r14 : List Cond := [Cond.static yX8_isScene, Cond.code yX8_isScene cX8_isScene 1 (some .boolean), Cond.methodLink RX8 164 yX7_sizeOf, Cond.instanceMethod yX7_sizeOf, Cond.selects RX7 yX7_sizeOf yX7_sizeOf, Cond.code yX7_sizeOf cX7_sizeOf 4 (some .int), Cond.methodLink RX7 33 yX7_cardIn, Cond.instanceMethod yX7_cardIn, Cond.selects RX7 yX7_cardIn yX7_cardIn, Cond.code yX7_cardIn cX7_cardIn 3 (some .int), Cond.static yX8_slot, Cond.code yX8_slot cX8_slot 2 (some .int), Cond.methodLink RX7 29 yX7_cardAt, Cond.instanceMethod yX7_cardAt, Cond.selects RX7 yX7_cardAt yX7_cardAt, Cond.code yX7_cardAt cX7_cardAt 2 (some .int), Cond.methodLink RX8 292 yX7_isIn, Cond.instanceMethod yX7_isIn, Cond.selects RX7 yX7_isIn yX7_isIn, Cond.code yX7_isIn cX7_isIn 4 (some .boolean), Cond.methodLink RX7 39 yX7_slotOf, Cond.instanceMethod yX7_slotOf, Cond.selects RX7 yX7_slotOf yX7_slotOf, Cond.code yX7_slotOf cX7_slotOf 3 (some .int)]
def wsL_law_r15 : List Cond := [Cond.methodLink RX8 123 yX7_slotOf, Cond.methodLink RX8 127 yX8_slot, Cond.methodLink RX8 130 yX7_takeOff, Cond.instanceMethod yX7_takeOff, Cond.selects RX7 yX7_takeOff yX7_takeOff, Cond.code yX7_takeOff cX7_takeOff 5 none, Cond.methodLink RX7 42 yX7_put, Cond.instanceMethod yX7_put, Cond.selects RX7 yX7_put yX7_put, Cond.code yX7_put cX7_put 3 none, Cond.methodLink RX8 134 yX7_putIn, Cond.instanceMethod yX7_putIn, Cond.selects RX7 yX7_putIn yX7_putIn, Cond.code yX7_putIn cX7_putIn 6 none, Cond.methodLink RX8 137 yX8_breaksNow, Cond.instanceMethod yX8_breaksNow, Cond.selects RX8 yX8_breaksNow yX8_breaksNow, Cond.code yX8_breaksNow cX8_breaksNow 2 (some .int), Cond.methodLink RX8 144 yX3_read, Cond.instanceMethod yX3_read, Cond.selects RX3 yX3_read yX3_read, Cond.code yX3_read cX3_read 5 none, Cond.fieldLink RX3 37 "StoryWall$Reading" "size" "I", Cond.fieldLink RX3 50 "StoryWall$Reading" "mostScenesWithout" "I"]
def wsL_law_r16 : List Cond := [Cond.fieldLink RX3 53 "StoryWall$Reading" "mostHoursWithout" "I", Cond.methodLink RX3 41 yX1_clear, Cond.methodLink RX3 44 yX4_setting, Cond.instanceMethod yX4_setting, Cond.selects RX4 yX4_setting yX4_setting, Cond.code yX4_setting cX4_setting 2 (some .int), Cond.methodLink RX3 56 yX7_cardAt, Cond.methodLink RX3 62 yX1_has, Cond.methodLink RX3 66 yX3_readCard, Cond.instanceMethod yX3_readCard, Cond.selects RX3 yX3_readCard yX3_readCard, Cond.code yX3_readCard cX3_readCard 6 none, Cond.methodLink RX3 70 yX1_number, Cond.methodLink RX3 77 yX1_appendFrom, Cond.methodLink RX8 229 yX3_tally, Cond.instanceMethod yX3_tally, Cond.selects RX3 yX3_tally yX3_tally, Cond.code yX3_tally cX3_tally 6 (some .int), Cond.methodLink RX3 92 yX3_isOf, Cond.instanceMethod yX3_isOf, Cond.selects RX3 yX3_isOf yX3_isOf, Cond.code yX3_isOf cX3_isOf 3 (some .boolean), Cond.methodLink RX3 89 yX3_sceneAt, Cond.instanceMethod yX3_sceneAt]
def wsL_law_r17 : List Cond := [Cond.selects RX3 yX3_sceneAt yX3_sceneAt, Cond.code yX3_sceneAt cX3_sceneAt 3 (some .int), Cond.methodLink RX3 81 yX3_valueAt, Cond.instanceMethod yX3_valueAt, Cond.selects RX3 yX3_valueAt yX3_valueAt, Cond.code yX3_valueAt cX3_valueAt 3 (some .int), Cond.methodLink RX3 96 yX3_worth, Cond.instanceMethod yX3_worth, Cond.selects RX3 yX3_worth yX3_worth, Cond.code yX3_worth cX3_worth 3 (some .int), Cond.methodLink RX3 99 yX3_isStraight, Cond.instanceMethod yX3_isStraight, Cond.selects RX3 yX3_isStraight yX3_isStraight, Cond.code yX3_isStraight cX3_isStraight 2 (some .boolean), Cond.methodLink RX3 102 yX3_isBreak, Cond.instanceMethod yX3_isBreak, Cond.selects RX3 yX3_isBreak yX3_isBreak, Cond.code yX3_isBreak cX3_isBreak 3 (some .boolean), Cond.methodLink RX3 105 yX3_endsThreadHole, Cond.instanceMethod yX3_endsThreadHole, Cond.selects RX3 yX3_endsThreadHole yX3_endsThreadHole, Cond.code yX3_endsThreadHole cX3_endsThreadHole 3 (some .boolean), Cond.methodLink RX3 86 yX3_rankAhead, Cond.instanceMethod yX3_rankAhead]
def wsL_law_r18 : List Cond := [Cond.selects RX3 yX3_rankAhead yX3_rankAhead, Cond.code yX3_rankAhead cX3_rankAhead 2 (some .int), Cond.methodLink RX3 108 yX3_endsTimeHole, Cond.instanceMethod yX3_endsTimeHole, Cond.selects RX3 yX3_endsTimeHole yX3_endsTimeHole, Cond.code yX3_endsTimeHole cX3_endsTimeHole 3 (some .boolean), Cond.methodLink RL 31 yX9_pin, Cond.instanceMethod yX9_pin, Cond.selects RX9 yX9_pin yX9_pin, Cond.code yX9_pin cX9_pin 5 (some .int), Cond.methodLink RX9 125 yX9_errorOf, Cond.instanceMethod yX9_errorOf, Cond.selects RX9 yX9_errorOf yX9_errorOf, Cond.code yX9_errorOf cX9_errorOf 5 (some .int), Cond.methodLink RX9 55 yX9_row, Cond.static yX9_row, Cond.code yX9_row cX9_row 1 (some .int), Cond.methodLink RX9 73 yX9_sceneOf, Cond.instanceMethod yX9_sceneOf, Cond.selects RX9 yX9_sceneOf yX9_sceneOf, Cond.code yX9_sceneOf cX9_sceneOf 5 (some .int), Cond.methodLink RX9 122 yX9_placeOf, Cond.instanceMethod yX9_placeOf, Cond.selects RX9 yX9_placeOf yX9_placeOf]
def wsL_law_r19 : List Cond := [Cond.code yX9_placeOf cX9_placeOf 5 (some .int), Cond.methodLink RX9 128 yX9_takeOff, Cond.instanceMethod yX9_takeOff, Cond.selects RX9 yX9_takeOff yX9_takeOff, Cond.code yX9_takeOff cX9_takeOff 5 none, Cond.methodLink RX9 131 yX9_putAt, Cond.instanceMethod yX9_putAt, Cond.selects RX9 yX9_putAt yX9_putAt, Cond.code yX9_putAt cX9_putAt 5 none, Cond.methodLink RX9 76 yX9_breaks, Cond.instanceMethod yX9_breaks, Cond.selects RX9 yX9_breaks yX9_breaks, Cond.code yX9_breaks cX9_breaks 7 (some .int), Cond.fieldLink RX9 62 "StoryWallModel" "straightMany" "I", Cond.methodLink RX9 69 yX9_layStraight, Cond.instanceMethod yX9_layStraight, Cond.selects RX9 yX9_layStraight yX9_layStraight, Cond.code yX9_layStraight cX9_layStraight 3 none, Cond.fieldLink RX9 52 "StoryWallModel" "onWall" "I", Cond.methodLink RX9 59 yX9_layOrder, Cond.instanceMethod yX9_layOrder, Cond.selects RX9 yX9_layOrder yX9_layOrder, Cond.code yX9_layOrder cX9_layOrder 4 none, Cond.methodLink RL 32 yX8_unpin]
def wsL_law_r20 : List Cond := [Cond.instanceMethod yX8_unpin, Cond.selects RX8 yX8_unpin yX8_unpin, Cond.code yX8_unpin cX8_unpin 2 (some .int), Cond.methodLink RL 36 yX9_unpin, Cond.instanceMethod yX9_unpin, Cond.selects RX9 yX9_unpin yX9_unpin, Cond.code yX9_unpin cX9_unpin 2 (some .int), Cond.methodLink RL 37 yX8_swap, Cond.instanceMethod yX8_swap, Cond.selects RX8 yX8_swap yX8_swap, Cond.code yX8_swap cX8_swap 5 (some .int), Cond.methodLink RX8 140 yX7_exchange, Cond.instanceMethod yX7_exchange, Cond.selects RX7 yX7_exchange yX7_exchange, Cond.code yX7_exchange cX7_exchange 4 none, Cond.methodLink RL 41 yX9_swap, Cond.instanceMethod yX9_swap, Cond.selects RX9 yX9_swap yX9_swap, Cond.code yX9_swap cX9_swap 5 (some .int), Cond.methodLink RX9 135 yX9_allBreaks, Cond.instanceMethod yX9_allBreaks, Cond.selects RX9 yX9_allBreaks yX9_allBreaks, Cond.code yX9_allBreaks cX9_allBreaks 3 (some .int), Cond.methodLink RL 42 yX8_straighten]
def wsL_law_r21 : List Cond := [Cond.instanceMethod yX8_straighten, Cond.selects RX8 yX8_straighten yX8_straighten, Cond.code yX8_straighten cX8_straighten 3 (some .int), Cond.methodLink RX8 147 yX5_gather, Cond.instanceMethod yX5_gather, Cond.selects RX5 yX5_gather yX5_gather, Cond.code yX5_gather cX5_gather 4 none, Cond.fieldLink RX5 30 "StoryWall$StraightRow" "size" "I", Cond.methodLink RX5 34 yX3_size, Cond.instanceMethod yX3_size, Cond.selects RX3 yX3_size yX3_size, Cond.code yX3_size cX3_size 1 (some .int), Cond.methodLink RX5 39 yX3_isOf, Cond.methodLink RX5 43 yX3_isStraight, Cond.methodLink RX5 47 yX3_cardAt, Cond.instanceMethod yX3_cardAt, Cond.selects RX3 yX3_cardAt yX3_cardAt, Cond.code yX3_cardAt cX3_cardAt 2 (some .int), Cond.methodLink RX5 51 yX3_hourAt, Cond.instanceMethod yX3_hourAt, Cond.selects RX3 yX3_hourAt yX3_hourAt, Cond.code yX3_hourAt cX3_hourAt 2 (some .int), Cond.methodLink RX5 54 yX3_slotAt, Cond.instanceMethod yX3_slotAt]
def wsL_law_r22 : List Cond := [Cond.selects RX3 yX3_slotAt yX3_slotAt, Cond.code yX3_slotAt cX3_slotAt 2 (some .int), Cond.methodLink RX8 151 yX5_sort, Cond.instanceMethod yX5_sort, Cond.selects RX5 yX5_sort yX5_sort, Cond.code yX5_sort cX5_sort 3 none, Cond.methodLink RX5 67 yX5_standsBefore, Cond.instanceMethod yX5_standsBefore, Cond.selects RX5 yX5_standsBefore yX5_standsBefore, Cond.code yX5_standsBefore cX5_standsBefore 4 (some .boolean), Cond.methodLink RX5 57 yX5_valueAt, Cond.instanceMethod yX5_valueAt, Cond.selects RX5 yX5_valueAt yX5_valueAt, Cond.code yX5_valueAt cX5_valueAt 3 (some .int), Cond.methodLink RX8 154 yX5_moved, Cond.instanceMethod yX5_moved, Cond.selects RX5 yX5_moved yX5_moved, Cond.code yX5_moved cX5_moved 3 (some .int), Cond.methodLink RX8 157 yX5_putOn, Cond.instanceMethod yX5_putOn, Cond.selects RX5 yX5_putOn yX5_putOn, Cond.code yX5_putOn cX5_putOn 3 none, Cond.methodLink RX5 70 yX7_put, Cond.methodLink RL 45 yX9_straighten]
def wsL_law_r23 : List Cond := [Cond.instanceMethod yX9_straighten, Cond.selects RX9 yX9_straighten yX9_straighten, Cond.code yX9_straighten cX9_straighten 7 (some .int), Cond.methodLink RL 46 yX8_insertScene, Cond.instanceMethod yX8_insertScene, Cond.selects RX8 yX8_insertScene yX8_insertScene, Cond.code yX8_insertScene cX8_insertScene 3 (some .int), Cond.methodLink RX8 167 yX7_exchangeScenes, Cond.instanceMethod yX7_exchangeScenes, Cond.selects RX7 yX7_exchangeScenes yX7_exchangeScenes, Cond.code yX7_exchangeScenes cX7_exchangeScenes 4 none, Cond.methodLink RX7 46 yX7_exchange, Cond.methodLink RX8 170 yX7_scenesWithCards, Cond.instanceMethod yX7_scenesWithCards, Cond.selects RX7 yX7_scenesWithCards yX7_scenesWithCards, Cond.code yX7_scenesWithCards cX7_scenesWithCards 3 (some .int), Cond.methodLink RX7 49 yX7_sizeOf, Cond.methodLink RL 49 yX9_insertScene, Cond.instanceMethod yX9_insertScene, Cond.selects RX9 yX9_insertScene yX9_insertScene, Cond.code yX9_insertScene cX9_insertScene 3 (some .int), Cond.methodLink RX9 138 yX9_copyRow, Cond.instanceMethod yX9_copyRow, Cond.selects RX9 yX9_copyRow yX9_copyRow]
def wsL_law_r24 : List Cond := [Cond.code yX9_copyRow cX9_copyRow 4 none, Cond.methodLink RX9 142 yX9_scenes, Cond.instanceMethod yX9_scenes, Cond.selects RX9 yX9_scenes yX9_scenes, Cond.code yX9_scenes cX9_scenes 3 (some .int), Cond.methodLink RL 50 yX8_removeScene, Cond.instanceMethod yX8_removeScene, Cond.selects RX8 yX8_removeScene yX8_removeScene, Cond.code yX8_removeScene cX8_removeScene 3 (some .int), Cond.methodLink RX8 173 yX7_hasCards, Cond.instanceMethod yX7_hasCards, Cond.selects RX7 yX7_hasCards yX7_hasCards, Cond.code yX7_hasCards cX7_hasCards 4 (some .boolean), Cond.methodLink RL 53 yX9_removeScene, Cond.instanceMethod yX9_removeScene, Cond.selects RX9 yX9_removeScene yX9_removeScene, Cond.code yX9_removeScene cX9_removeScene 4 (some .int), Cond.methodLink RL 54 yX8_swapScenes, Cond.instanceMethod yX8_swapScenes, Cond.selects RX8 yX8_swapScenes yX8_swapScenes, Cond.code yX8_swapScenes cX8_swapScenes 3 (some .int), Cond.methodLink RL 57 yX9_swapScenes, Cond.instanceMethod yX9_swapScenes, Cond.selects RX9 yX9_swapScenes yX9_swapScenes]
def wsL_law_r25 : List Cond := [Cond.code yX9_swapScenes cX9_swapScenes 5 (some .int), Cond.methodLink RL 58 yX8_set, Cond.instanceMethod yX8_set, Cond.selects RX8 yX8_set yX8_set, Cond.code yX8_set cX8_set 4 (some .int), Cond.fieldLink RX8 176 "StoryWall" "LEAST_SETTING" "[I", Cond.fieldLink RX8 180 "StoryWall" "MOST_SETTING" "[I", Cond.methodLink RX8 183 yX4_setting, Cond.methodLink RX8 186 yX4_putSetting, Cond.instanceMethod yX4_putSetting, Cond.selects RX4 yX4_putSetting yX4_putSetting, Cond.code yX4_putSetting cX4_putSetting 3 none, Cond.methodLink RL 61 yX9_set, Cond.instanceMethod yX9_set, Cond.selects RX9 yX9_set yX9_set, Cond.code yX9_set cX9_set 5 (some .int), Cond.methodLink RL 62 yX8_type, Cond.instanceMethod yX8_type, Cond.selects RX8 yX8_type yX8_type, Cond.code yX8_type cX8_type 2 (some .int), Cond.methodLink RX8 189 yX0_append, Cond.instanceMethod yX0_append, Cond.selects RX0 yX0_append yX0_append, Cond.code yX0_append cX0_append 2 (some .boolean)]
def wsL_law_r26 : List Cond := [Cond.methodLink RX8 192 yX0_length, Cond.instanceMethod yX0_length, Cond.selects RX0 yX0_length yX0_length, Cond.code yX0_length cX0_length 1 (some .int), Cond.methodLink RL 66 yX9_type, Cond.instanceMethod yX9_type, Cond.selects RX9 yX9_type yX9_type, Cond.code yX9_type cX9_type 2 (some .int), Cond.methodLink RL 67 yX8_clearText, Cond.instanceMethod yX8_clearText, Cond.selects RX8 yX8_clearText yX8_clearText, Cond.code yX8_clearText cX8_clearText 2 (some .int), Cond.methodLink RX8 195 yX0_clear, Cond.instanceMethod yX0_clear, Cond.selects RX0 yX0_clear yX0_clear, Cond.code yX0_clear cX0_clear 1 none, Cond.methodLink RL 70 yX9_clearText, Cond.instanceMethod yX9_clearText, Cond.selects RX9 yX9_clearText yX9_clearText, Cond.code yX9_clearText cX9_clearText 2 (some .int), Cond.methodLink RL 71 yX8_undo, Cond.instanceMethod yX8_undo, Cond.selects RX8 yX8_undo yX8_undo, Cond.code yX8_undo cX8_undo 1 (some .int)]
def wsL_law_r27 : List Cond := [Cond.methodLink RX8 198 yX2_takeBack, Cond.instanceMethod yX2_takeBack, Cond.selects RX2 yX2_takeBack yX2_takeBack, Cond.code yX2_takeBack cX2_takeBack 3 (some .boolean), Cond.methodLink RX8 202 yX2_size, Cond.instanceMethod yX2_size, Cond.selects RX2 yX2_size yX2_size, Cond.code yX2_size cX2_size 1 (some .int), Cond.methodLink RL 74 yX9_undo, Cond.instanceMethod yX9_undo, Cond.selects RX9 yX9_undo yX9_undo, Cond.code yX9_undo cX9_undo 2 (some .int), Cond.methodLink RL 75 yX8_keep, Cond.instanceMethod yX8_keep, Cond.selects RX8 yX8_keep yX8_keep, Cond.code yX8_keep cX8_keep 1 (some .int), Cond.methodLink RX8 203 yX4_copyFrom, Cond.methodLink RX8 206 yX7_cards, Cond.instanceMethod yX7_cards, Cond.selects RX7 yX7_cards yX7_cards, Cond.code yX7_cards cX7_cards 1 (some .int), Cond.methodLink RX7 36 yX7_cardsAheadOf, Cond.instanceMethod yX7_cardsAheadOf, Cond.selects RX7 yX7_cardsAheadOf yX7_cardsAheadOf]
def wsL_law_r28 : List Cond := [Cond.code yX7_cardsAheadOf cX7_cardsAheadOf 4 (some .int), Cond.methodLink RL 78 yX9_keep, Cond.instanceMethod yX9_keep, Cond.selects RX9 yX9_keep yX9_keep, Cond.code yX9_keep cX9_keep 2 (some .int), Cond.fieldLink RX9 145 "StoryWallModel" "isKept" "Z", Cond.methodLink RX9 149 yX9_wallMany, Cond.instanceMethod yX9_wallMany, Cond.selects RX9 yX9_wallMany yX9_wallMany, Cond.code yX9_wallMany cX9_wallMany 1 (some .int), Cond.methodLink RL 79 yX8_restore, Cond.instanceMethod yX8_restore, Cond.selects RX8 yX8_restore yX8_restore, Cond.code yX8_restore cX8_restore 1 (some .int), Cond.methodLink RL 82 yX9_restore, Cond.instanceMethod yX9_restore, Cond.selects RX9 yX9_restore yX9_restore, Cond.code yX9_restore cX9_restore 2 (some .int), Cond.methodLink RL 83 yX8_card, Cond.instanceMethod yX8_card, Cond.selects RX8 yX8_card yX8_card, Cond.code yX8_card cX8_card 4 (some .int), Cond.methodLink RX8 208 yX3_rankOf, Cond.instanceMethod yX3_rankOf]
def wsL_law_r29 : List Cond := [Cond.selects RX3 yX3_rankOf yX3_rankOf, Cond.code yX3_rankOf cX3_rankOf 3 (some .int), Cond.methodLink RX3 85 yX3_cardAt, Cond.methodLink RX8 211 yX3_sceneAt, Cond.methodLink RX8 214 yX3_placeAt, Cond.instanceMethod yX3_placeAt, Cond.selects RX3 yX3_placeAt yX3_placeAt, Cond.code yX3_placeAt cX3_placeAt 3 (some .int), Cond.methodLink RX8 217 yX3_isBreak, Cond.methodLink RX8 220 yX3_rankAhead, Cond.methodLink RX8 223 yX3_cardAt, Cond.methodLink RL 86 yX9_card, Cond.instanceMethod yX9_card, Cond.selects RX9 yX9_card yX9_card, Cond.code yX9_card cX9_card 3 (some .int), Cond.methodLink RX9 152 yX9_ahead, Cond.instanceMethod yX9_ahead, Cond.selects RX9 yX9_ahead yX9_ahead, Cond.code yX9_ahead cX9_ahead 4 (some .int), Cond.methodLink RL 87 yX8_at, Cond.instanceMethod yX8_at, Cond.selects RX8 yX8_at yX8_at, Cond.code yX8_at cX8_at 3 (some .int), Cond.methodLink RX8 226 yX7_cardIn]
def wsL_law_r30 : List Cond := [Cond.methodLink RL 90 yX9_at, Cond.instanceMethod yX9_at, Cond.selects RX9 yX9_at yX9_at, Cond.code yX9_at cX9_at 3 (some .int), Cond.methodLink RL 91 yX8_thread, Cond.instanceMethod yX8_thread, Cond.selects RX8 yX8_thread yX8_thread, Cond.code yX8_thread cX8_thread 3 (some .int), Cond.methodLink RX8 232 yX1_ofThread, Cond.instanceMethod yX1_ofThread, Cond.selects RX1 yX1_ofThread yX1_ofThread, Cond.code yX1_ofThread cX1_ofThread 4 (some .int), Cond.methodLink RX8 235 yX5_fewestMoves, Cond.instanceMethod yX5_fewestMoves, Cond.selects RX5 yX5_fewestMoves yX5_fewestMoves, Cond.code yX5_fewestMoves cX5_fewestMoves 5 (some .int), Cond.methodLink RX5 61 Lib.Math.max.name, Cond.static Lib.Math.max.name, Cond.initialized "java/lang/Math", Cond.code Lib.Math.max.name Lib.Math.max.code 2 (some .int), Cond.methodLink RL 94 yX9_thread, Cond.instanceMethod yX9_thread, Cond.selects RX9 yX9_thread yX9_thread, Cond.code yX9_thread cX9_thread 3 (some .int)]
def wsL_law_r31 : List Cond := [Cond.methodLink RX9 155 yX9_cardsOf, Cond.instanceMethod yX9_cardsOf, Cond.selects RX9 yX9_cardsOf yX9_cardsOf, Cond.code yX9_cardsOf cX9_cardsOf 6 (some .int), Cond.methodLink RX9 158 yX9_fewest, Cond.instanceMethod yX9_fewest, Cond.selects RX9 yX9_fewest yX9_fewest, Cond.code yX9_fewest cX9_fewest 6 (some .int), Cond.methodLink RX9 161 yX9_threadHoles, Cond.instanceMethod yX9_threadHoles, Cond.selects RX9 yX9_threadHoles yX9_threadHoles, Cond.code yX9_threadHoles cX9_threadHoles 5 (some .int), Cond.methodLink RX9 164 yX9_timeHoles, Cond.instanceMethod yX9_timeHoles, Cond.selects RX9 yX9_timeHoles yX9_timeHoles, Cond.code yX9_timeHoles cX9_timeHoles 4 (some .int), Cond.methodLink RL 95 yX8_scene, Cond.instanceMethod yX8_scene, Cond.selects RX8 yX8_scene yX8_scene, Cond.code yX8_scene cX8_scene 3 (some .int), Cond.methodLink RX8 238 yX6_measure, Cond.instanceMethod yX6_measure, Cond.selects RX6 yX6_measure yX6_measure, Cond.code yX6_measure cX6_measure 6 none]
def wsL_law_r32 : List Cond := [Cond.constantFloat RX6 25 (1120403456), Cond.constantFloat RX6 26 (3212836864), Cond.methodLink RX6 19 yX4_setting, Cond.methodLink RX6 31 yX7_sizeOf, Cond.methodLink RX6 36 yX6_measureScene, Cond.static yX6_measureScene, Cond.code yX6_measureScene cX6_measureScene 7 (some .float), Cond.methodLink RX6 47 yX7_cardIn, Cond.methodLink RX6 55 yX1_number, Cond.methodLink RX6 40 yX6_tensionOf, Cond.instanceMethod yX6_tensionOf, Cond.selects RX6 yX6_tensionOf yX6_tensionOf, Cond.code yX6_tensionOf cX6_tensionOf 2 (some .float), Cond.methodLink RX6 44 yX6_climbTo, Cond.instanceMethod yX6_climbTo, Cond.selects RX6 yX6_climbTo yX6_climbTo, Cond.code yX6_climbTo cX6_climbTo 2 (some .int), Cond.methodLink RX8 241 yX3_threadsIn, Cond.instanceMethod yX3_threadsIn, Cond.selects RX3 yX3_threadsIn yX3_threadsIn, Cond.code yX3_threadsIn cX3_threadsIn 4 (some .int), Cond.methodLink RX8 244 yX7_isHole, Cond.instanceMethod yX7_isHole, Cond.selects RX7 yX7_isHole yX7_isHole]
def wsL_law_r33 : List Cond := [Cond.code yX7_isHole cX7_isHole 2 (some .boolean), Cond.methodLink RX7 52 yX7_hasCards, Cond.methodLink RX8 247 yX6_rises, Cond.instanceMethod yX6_rises, Cond.selects RX6 yX6_rises yX6_rises, Cond.code yX6_rises cX6_rises 2 (some .boolean), Cond.methodLink RX8 250 yX6_climbTo, Cond.methodLink RL 98 yX9_scene, Cond.instanceMethod yX9_scene, Cond.selects RX9 yX9_scene yX9_scene, Cond.code yX9_scene cX9_scene 3 (some .int), Cond.methodLink RX9 167 yX9_wordsIn, Cond.instanceMethod yX9_wordsIn, Cond.selects RX9 yX9_wordsIn yX9_wordsIn, Cond.code yX9_wordsIn cX9_wordsIn 4 (some .int), Cond.methodLink RX9 181 yX9_threadsIn, Cond.instanceMethod yX9_threadsIn, Cond.selects RX9 yX9_threadsIn yX9_threadsIn, Cond.code yX9_threadsIn cX9_threadsIn 4 (some .int), Cond.methodLink RX9 184 yX9_isHole, Cond.instanceMethod yX9_isHole, Cond.selects RX9 yX9_isHole yX9_isHole, Cond.code yX9_isHole cX9_isHole 4 (some .boolean), Cond.methodLink RX9 170 yX9_lastScene]
def wsL_law_r34 : List Cond := [Cond.instanceMethod yX9_lastScene, Cond.selects RX9 yX9_lastScene yX9_lastScene, Cond.code yX9_lastScene cX9_lastScene 4 (some .int), Cond.methodLink RX9 178 yX9_isRising, Cond.instanceMethod yX9_isRising, Cond.selects RX9 yX9_isRising yX9_isRising, Cond.code yX9_isRising cX9_isRising 3 (some .boolean), Cond.constantFloat RX9 177 (1120403456), Cond.methodLink RX9 173 yX9_tensionIn, Cond.instanceMethod yX9_tensionIn, Cond.selects RX9 yX9_tensionIn yX9_tensionIn, Cond.code yX9_tensionIn cX9_tensionIn 5 (some .float), Cond.methodLink RX9 187 yX9_breaksIn, Cond.instanceMethod yX9_breaksIn, Cond.selects RX9 yX9_breaksIn yX9_breaksIn, Cond.code yX9_breaksIn cX9_breaksIn 4 (some .int), Cond.methodLink RX9 190 yX9_climb, Cond.instanceMethod yX9_climb, Cond.selects RX9 yX9_climb yX9_climb, Cond.code yX9_climb cX9_climb 4 (some .int), Cond.methodLink RL 99 yX8_tension, Cond.instanceMethod yX8_tension, Cond.selects RX8 yX8_tension yX8_tension, Cond.code yX8_tension cX8_tension 2 (some .float)]
def wsL_law_r35 : List Cond := [Cond.methodLink RX8 253 yX6_tensionOf, Cond.methodLink RL 103 yX9_tension, Cond.instanceMethod yX9_tension, Cond.selects RX9 yX9_tension yX9_tension, Cond.code yX9_tension cX9_tension 2 (some .float), Cond.constantFloat RX9 193 (3212836864), Cond.methodLink RL 104 yX8_broken, Cond.instanceMethod yX8_broken, Cond.selects RX8 yX8_broken yX8_broken, Cond.code yX8_broken cX8_broken 2 (some .int), Cond.methodLink RX8 257 yX3_breakNumber, Cond.instanceMethod yX3_breakNumber, Cond.selects RX3 yX3_breakNumber yX3_breakNumber, Cond.code yX3_breakNumber cX3_breakNumber 4 (some .int), Cond.methodLink RL 107 yX9_broken, Cond.instanceMethod yX9_broken, Cond.selects RX9 yX9_broken yX9_broken, Cond.code yX9_broken cX9_broken 7 (some .int), Cond.methodLink RL 108 yX8_would, Cond.instanceMethod yX8_would, Cond.selects RX8 yX8_would yX8_would, Cond.code yX8_would cX8_would 6 (some .int), Cond.methodLink RX8 260 yX8_readWithout, Cond.instanceMethod yX8_readWithout]
def wsL_law_r36 : List Cond := [Cond.selects RX8 yX8_readWithout yX8_readWithout, Cond.code yX8_readWithout cX8_readWithout 2 none, Cond.methodLink RX8 295 yX7_copyFrom, Cond.methodLink RX8 263 yX7_cardsAheadOf, Cond.methodLink RX8 266 yX8_breaksMadeBy, Cond.instanceMethod yX8_breaksMadeBy, Cond.selects RX8 yX8_breaksMadeBy yX8_breaksMadeBy, Cond.code yX8_breaksMadeBy cX8_breaksMadeBy 3 (some .int), Cond.methodLink RX8 297 yX5_breaksMadeBy, Cond.instanceMethod yX5_breaksMadeBy, Cond.selects RX5 yX5_breaksMadeBy yX5_breaksMadeBy, Cond.code yX5_breaksMadeBy cX5_breaksMadeBy 9 (some .int), Cond.methodLink RL 111 yX9_would, Cond.instanceMethod yX9_would, Cond.selects RX9 yX9_would yX9_would, Cond.code yX9_would cX9_would 5 (some .int), Cond.methodLink RX9 194 yX9_tried, Cond.instanceMethod yX9_tried, Cond.selects RX9 yX9_tried yX9_tried, Cond.code yX9_tried cX9_tried 6 (some .int), Cond.methodLink RL 112 yX8_best, Cond.instanceMethod yX8_best, Cond.selects RX8 yX8_best yX8_best, Cond.code yX8_best cX8_best 9 (some .int)]
def wsL_law_r37 : List Cond := [Cond.methodLink RL 115 yX9_best, Cond.instanceMethod yX9_best, Cond.selects RX9 yX9_best yX9_best, Cond.code yX9_best cX9_best 7 (some .int), Cond.methodLink RL 116 yX8_count, Cond.instanceMethod yX8_count, Cond.selects RX8 yX8_count yX8_count, Cond.code yX8_count cX8_count 2 (some .int), Cond.methodLink RX8 269 yX7_holes, Cond.instanceMethod yX7_holes, Cond.selects RX7 yX7_holes yX7_holes, Cond.code yX7_holes cX7_holes 3 (some .int), Cond.methodLink RX7 56 yX7_isHole, Cond.methodLink RX8 272 yX6_longestClimb, Cond.instanceMethod yX6_longestClimb, Cond.selects RX6 yX6_longestClimb yX6_longestClimb, Cond.code yX6_longestClimb cX6_longestClimb 3 (some .int), Cond.methodLink RX6 60 Lib.Math.max.name, Cond.methodLink RX8 275 yX8_threadsThatStand, Cond.instanceMethod yX8_threadsThatStand, Cond.selects RX8 yX8_threadsThatStand yX8_threadsThatStand, Cond.code yX8_threadsThatStand cX8_threadsThatStand 3 (some .int), Cond.methodLink RL 119 yX9_count, Cond.instanceMethod yX9_count]
def wsL_law_r38 : List Cond := [Cond.selects RX9 yX9_count yX9_count, Cond.code yX9_count cX9_count 2 (some .int), Cond.methodLink RX9 197 yX9_holes, Cond.instanceMethod yX9_holes, Cond.selects RX9 yX9_holes yX9_holes, Cond.code yX9_holes cX9_holes 4 (some .int), Cond.methodLink RX9 201 yX9_ofScenes, Cond.instanceMethod yX9_ofScenes, Cond.selects RX9 yX9_ofScenes yX9_ofScenes, Cond.code yX9_ofScenes cX9_ofScenes 5 (some .int), Cond.methodLink RX9 204 yX9_standing, Cond.instanceMethod yX9_standing, Cond.selects RX9 yX9_standing yX9_standing, Cond.code yX9_standing cX9_standing 3 (some .int), Cond.methodLink RL 120 yX8_spanBits, Cond.instanceMethod yX8_spanBits, Cond.selects RX8 yX8_spanBits yX8_spanBits, Cond.code yX8_spanBits cX8_spanBits 1 (some .int), Cond.methodLink RX8 278 yX6_span, Cond.instanceMethod yX6_span, Cond.selects RX6 yX6_span yX6_span, Cond.code yX6_span cX6_span 6 (some .float), Cond.methodLink RX8 282 yX8_bitsOf, Cond.static yX8_bitsOf]
def wsL_law_r39 : List Cond := [Cond.code yX8_bitsOf cX8_bitsOf 3 (some .int), Cond.constantFloat RX8 298 (1258291200), Cond.methodLink RL 123 yX9_spanBits, Cond.instanceMethod yX9_spanBits, Cond.selects RX9 yX9_spanBits yX9_spanBits, Cond.code yX9_spanBits cX9_spanBits 5 (some .int), Cond.constantFloat RX9 207 (1120534528), Cond.methodLink RX9 208 yJxf58ca_floatToIntBits_5c35a, Cond.static yJxf58ca_floatToIntBits_5c35a, Cond.initialized RJxf58ca, Cond.code yJxf58ca_floatToIntBits_5c35a cJxf58ca_floatToIntBits_5c35a 1 (some .int), Cond.methodLink RJxf58ca 74 ⟨"java/lang/Float", "floatToRawIntBits", "(F)I"⟩, Cond.native ⟨"java/lang/Float", "floatToRawIntBits", "(F)I"⟩, Cond.static ⟨"java/lang/Float", "floatToRawIntBits", "(F)I"⟩, Cond.initialized "java/lang/Float", Cond.constant RJxf58ca 77 (2143289344), Cond.methodLink RJxf58ca 59 yJxf58ca_isNaN_12338, Cond.static yJxf58ca_isNaN_12338, Cond.code yJxf58ca_isNaN_12338 cJxf58ca_isNaN_12338 1 (some .boolean)]
def wsL_law : List Cond := (wsL_law_r1 ++ (wsL_law_r2 ++ (wsL_law_r3 ++ (wsL_law_r4 ++ (wsL_law_r5 ++ (wsL_law_r6 ++ (wsL_law_r7 ++ (wsL_law_r8 ++ (wsL_law_r9 ++ (wsL_law_r10 ++ (wsL_law_r11 ++ (wsL_law_r12 ++ (wsL_law_r13 ++ (wsL_law_r14 ++ (wsL_law_r15 ++ (wsL_law_r16 ++ (wsL_law_r17 ++ (wsL_law_r18 ++ (wsL_law_r19 ++ (wsL_law_r20 ++ (wsL_law_r21 ++ (wsL_law_r22 ++ (wsL_law_r23 ++ (wsL_law_r24 ++ (wsL_law_r25 ++ (wsL_law_r26 ++ (wsL_law_r27 ++ (wsL_law_r28 ++ (wsL_law_r29 ++ (wsL_law_r30 ++ (wsL_law_r31 ++ (wsL_law_r32 ++ (wsL_law_r33 ++ (wsL_law_r34 ++ (wsL_law_r35 ++ (wsL_law_r36 ++ (wsL_law_r37 ++ (wsL_law_r38 ++ wsL_law_r39)))))))))))))))))))))))))))))))))))))) ++ wsX80 ++ wsX90 ++ wsX40 ++ wsX20 ++ wsX00 ++ wsX70 ++ wsX30 ++ wsX50 ++ wsX60 ++ wsX10 ++ ([] : List Cond)
set_option maxRecDepth 20000 in
theorem ggX0_init_X1_init : GoodIn wsX0_init wsX1_init := goodIn_r _ [11, 12, 2, 3, 13, 14, 20, 21] (by decide +kernel) (by decide +kernel)
set_option maxRecDepth 20000 in
theorem gX0_init_X1_init_n17 : GoodIn wsX0_init (wsX1_init) := ggX0_init_X1_init
theorem dX0_init_0 : decode cX0_init 0 = .ok (.aload_n 0, 1) := by decide +kernel
theorem dX0_init_1 : decode cX0_init 1 = .ok (.invokespecial 3, 3) := by decide +kernel
theorem dX0_init_4 : decode cX0_init 4 = .ok (.aload_n 0, 1) := by decide +kernel
theorem dX0_init_5 : decode cX0_init 5 = .ok (.bipush 60, 2) := by decide +kernel
theorem dX0_init_7 : decode cX0_init 7 = .ok (.newarray .char, 2) := by decide +kernel
theorem dX0_init_9 : decode cX0_init 9 = .ok (.putfield 9, 3) := by decide +kernel
theorem dX0_init_12 : decode cX0_init 12 = .ok (.aload_n 0, 1) := by decide +kernel
theorem dX0_init_13 : decode cX0_init 13 = .ok (.new 15, 3) := by decide +kernel
theorem dX0_init_16 : decode cX0_init 16 = .ok (.dup, 1) := by decide +kernel
theorem dX0_init_17 : decode cX0_init 17 = .ok (.invokespecial 17, 3) := by decide +kernel
theorem dX0_init_20 : decode cX0_init 20 = .ok (.putfield 18, 3) := by decide +kernel
theorem dX0_init_23 : decode cX0_init 23 = .ok (.return_, 1) := by decide +kernel
theorem dX0_length_0 : decode cX0_length 0 = .ok (.aload_n 0, 1) := by decide +kernel
theorem dX0_length_1 : decode cX0_length 1 = .ok (.getfield 22, 3) := by decide +kernel
theorem dX0_length_4 : decode cX0_length 4 = .ok (.ireturn, 1) := by decide +kernel
theorem dX0_clear_0 : decode cX0_clear 0 = .ok (.aload_n 0, 1) := by decide +kernel
theorem dX0_clear_1 : decode cX0_clear 1 = .ok (.iconst 0, 1) := by decide +kernel
theorem dX0_clear_2 : decode cX0_clear 2 = .ok (.putfield 22, 3) := by decide +kernel
theorem dX0_clear_5 : decode cX0_clear 5 = .ok (.return_, 1) := by decide +kernel
theorem dX0_append_0 : decode cX0_append 0 = .ok (.aload_n 0, 1) := by decide +kernel
theorem dX0_append_1 : decode cX0_append 1 = .ok (.getfield 22, 3) := by decide +kernel
theorem dX0_append_4 : decode cX0_append 4 = .ok (.ifCond .lt 15, 3) := by decide +kernel
theorem dX0_append_7 : decode cX0_append 7 = .ok (.aload_n 0, 1) := by decide +kernel
theorem dX0_append_8 : decode cX0_append 8 = .ok (.getfield 22, 3) := by decide +kernel
theorem dX0_append_11 : decode cX0_append 11 = .ok (.aload_n 0, 1) := by decide +kernel
theorem dX0_append_12 : decode cX0_append 12 = .ok (.getfield 9, 3) := by decide +kernel
theorem dX0_append_15 : decode cX0_append 15 = .ok (.arraylength, 1) := by decide +kernel
theorem dX0_append_16 : decode cX0_append 16 = .ok (.if_icmp .lt 5, 3) := by decide +kernel
theorem dX0_append_19 : decode cX0_append 19 = .ok (.iconst 0, 1) := by decide +kernel
theorem dX0_append_20 : decode cX0_append 20 = .ok (.ireturn, 1) := by decide +kernel
theorem dX0_append_21 : decode cX0_append 21 = .ok (.aload_n 0, 1) := by decide +kernel
theorem dX0_append_22 : decode cX0_append 22 = .ok (.getfield 9, 3) := by decide +kernel
theorem dX0_append_25 : decode cX0_append 25 = .ok (.aload_n 0, 1) := by decide +kernel
theorem dX0_append_26 : decode cX0_append 26 = .ok (.getfield 22, 3) := by decide +kernel
theorem dX0_append_29 : decode cX0_append 29 = .ok (.iload_n 1, 1) := by decide +kernel
theorem dX0_append_30 : decode cX0_append 30 = .ok (.castore, 1) := by decide +kernel
theorem dX0_append_31 : decode cX0_append 31 = .ok (.aload_n 0, 1) := by decide +kernel
theorem dX0_append_32 : decode cX0_append 32 = .ok (.dup, 1) := by decide +kernel
theorem dX0_append_33 : decode cX0_append 33 = .ok (.getfield 22, 3) := by decide +kernel
theorem dX0_append_36 : decode cX0_append 36 = .ok (.iconst 1, 1) := by decide +kernel
theorem dX0_append_37 : decode cX0_append 37 = .ok (.iadd, 1) := by decide +kernel
theorem dX0_append_38 : decode cX0_append 38 = .ok (.putfield 22, 3) := by decide +kernel
theorem dX0_append_41 : decode cX0_append 41 = .ok (.iconst 1, 1) := by decide +kernel
theorem dX0_append_42 : decode cX0_append 42 = .ok (.ireturn, 1) := by decide +kernel
theorem dX0_cardsRead_0 : decode cX0_cardsRead 0 = .ok (.aload_n 0, 1) := by decide +kernel
theorem dX0_cardsRead_1 : decode cX0_cardsRead 1 = .ok (.getfield 18, 3) := by decide +kernel
theorem dX0_cardsRead_4 : decode cX0_cardsRead 4 = .ok (.areturn, 1) := by decide +kernel
set_option maxRecDepth 20000 in
theorem ggX0_read_X1_clear : GoodIn wsX0_read wsX1_clear := goodIn_r _ [9, 10, 66, 67] (by decide +kernel) (by decide +kernel)
set_option maxRecDepth 20000 in
theorem gX0_read_X1_clear : GoodIn wsX0_read (wsV RX0 26 RX1 yX1_clear wsX1_clear) := goodIn_app (goodIn_of _ (by decide +kernel)) ggX0_read_X1_clear
set_option maxRecDepth 20000 in
theorem ggX0_read_X0_readCard : GoodIn wsX0_read wsX0_readCard := goodIn_r _ [15, 3, 2, 1, 16, 17, 18, 14, 19, 20, 21, 22, 23, 24, 4, 25, 26, 27, 28, 29, 30, 31, 32, 33, 34, 35, 36, 37, 38, 39, 40, 41, 42, 43, 44, 45, 46, 8, 47, 10, 48, 49, 50, 51, 52, 53, 54, 55, 56, 57, 58, 59, 60, 61, 62, 63, 64, 65, 66, 67] (by decide +kernel) (by decide +kernel)
set_option maxRecDepth 20000 in
theorem gX0_read_X0_readCard : GoodIn wsX0_read (wsV RX0 36 RX0 yX0_readCard wsX0_readCard) := goodIn_app (goodIn_of _ (by decide +kernel)) ggX0_read_X0_readCard
set_option maxRecDepth 20000 in
theorem ggX0_read_X0_readSign : GoodIn wsX0_read wsX0_readSign := goodIn_r _ [39, 3, 2, 40, 41, 42, 14, 43, 20, 21, 22, 23, 24, 4, 61, 62, 63, 64, 65] (by decide +kernel) (by decide +kernel)
set_option maxRecDepth 20000 in
theorem gX0_read_X0_readSign : GoodIn wsX0_read (wsV RX0 39 RX0 yX0_readSign wsX0_readSign) := goodIn_app (goodIn_of _ (by decide +kernel)) ggX0_read_X0_readSign
theorem dX0_read_0 : decode cX0_read 0 = .ok (.aload_n 0, 1) := by decide +kernel
theorem dX0_read_1 : decode cX0_read 1 = .ok (.getfield 18, 3) := by decide +kernel
theorem dX0_read_4 : decode cX0_read 4 = .ok (.invokevirtual 26, 3) := by decide +kernel
theorem dX0_read_7 : decode cX0_read 7 = .ok (.aload_n 0, 1) := by decide +kernel
theorem dX0_read_8 : decode cX0_read 8 = .ok (.iconst 0, 1) := by decide +kernel
theorem dX0_read_9 : decode cX0_read 9 = .ok (.putfield 29, 3) := by decide +kernel
theorem dX0_read_12 : decode cX0_read 12 = .ok (.aload_n 0, 1) := by decide +kernel
theorem dX0_read_13 : decode cX0_read 13 = .ok (.iconst 0, 1) := by decide +kernel
theorem dX0_read_14 : decode cX0_read 14 = .ok (.putfield 32, 3) := by decide +kernel
theorem dX0_read_17 : decode cX0_read 17 = .ok (.aload_n 0, 1) := by decide +kernel
theorem dX0_read_18 : decode cX0_read 18 = .ok (.invokevirtual 36, 3) := by decide +kernel
theorem dX0_read_21 : decode cX0_read 21 = .ok (.iconst 0, 1) := by decide +kernel
theorem dX0_read_22 : decode cX0_read 22 = .ok (.istore_n 1, 1) := by decide +kernel
theorem dX0_read_23 : decode cX0_read 23 = .ok (.iload_n 1, 1) := by decide +kernel
theorem dX0_read_24 : decode cX0_read 24 = .ok (.bipush 60, 2) := by decide +kernel
theorem dX0_read_26 : decode cX0_read 26 = .ok (.if_icmp .ge 37, 3) := by decide +kernel
theorem dX0_read_29 : decode cX0_read 29 = .ok (.aload_n 0, 1) := by decide +kernel
theorem dX0_read_30 : decode cX0_read 30 = .ok (.getfield 32, 3) := by decide +kernel
theorem dX0_read_33 : decode cX0_read 33 = .ok (.ifCond .ne 30, 3) := by decide +kernel
theorem dX0_read_36 : decode cX0_read 36 = .ok (.aload_n 0, 1) := by decide +kernel
theorem dX0_read_37 : decode cX0_read 37 = .ok (.getfield 29, 3) := by decide +kernel
theorem dX0_read_40 : decode cX0_read 40 = .ok (.aload_n 0, 1) := by decide +kernel
theorem dX0_read_41 : decode cX0_read 41 = .ok (.getfield 22, 3) := by decide +kernel
theorem dX0_read_44 : decode cX0_read 44 = .ok (.if_icmp .ge 19, 3) := by decide +kernel
theorem dX0_read_47 : decode cX0_read 47 = .ok (.aload_n 0, 1) := by decide +kernel
theorem dX0_read_48 : decode cX0_read 48 = .ok (.bipush 59, 2) := by decide +kernel
theorem dX0_read_50 : decode cX0_read 50 = .ok (.invokevirtual 39, 3) := by decide +kernel
theorem dX0_read_53 : decode cX0_read 53 = .ok (.aload_n 0, 1) := by decide +kernel
theorem dX0_read_54 : decode cX0_read 54 = .ok (.invokevirtual 36, 3) := by decide +kernel
theorem dX0_read_57 : decode cX0_read 57 = .ok (.iinc 1 1, 3) := by decide +kernel
theorem dX0_read_60 : decode cX0_read 60 = .ok (.goto (-37), 3) := by decide +kernel
theorem dX0_read_63 : decode cX0_read 63 = .ok (.aload_n 0, 1) := by decide +kernel
theorem dX0_read_64 : decode cX0_read 64 = .ok (.getfield 32, 3) := by decide +kernel
theorem dX0_read_67 : decode cX0_read 67 = .ok (.ifCond .eq 10, 3) := by decide +kernel
theorem dX0_read_70 : decode cX0_read 70 = .ok (.aload_n 0, 1) := by decide +kernel
theorem dX0_read_71 : decode cX0_read 71 = .ok (.getfield 29, 3) := by decide +kernel
theorem dX0_read_74 : decode cX0_read 74 = .ok (.goto 5, 3) := by decide +kernel
theorem dX0_read_77 : decode cX0_read 77 = .ok (.bipush (-5), 2) := by decide +kernel
theorem dX0_read_79 : decode cX0_read 79 = .ok (.ireturn, 1) := by decide +kernel
set_option maxRecDepth 20000 in
theorem ggX0_readCard_X0_readThread : GoodIn wsX0_readCard wsX0_readThread := goodIn_r _ [8, 1, 9, 2, 10, 11, 12, 7, 13, 14, 15, 16, 17, 53, 54, 55, 56, 57] (by decide +kernel) (by decide +kernel)
set_option maxRecDepth 20000 in
theorem gX0_readCard_X0_readThread : GoodIn wsX0_readCard (wsV RX0 43 RX0 yX0_readThread wsX0_readThread) := goodIn_app (goodIn_of _ (by decide +kernel)) ggX0_readCard_X0_readThread
set_option maxRecDepth 20000 in
theorem ggX0_readCard_X0_readNumber : GoodIn wsX0_readCard wsX0_readNumber := goodIn_r _ [21, 1, 2, 14, 22, 23, 24, 7, 25, 9, 10, 11, 12, 13, 53, 54, 55, 56, 57] (by decide +kernel) (by decide +kernel)
set_option maxRecDepth 20000 in
theorem gX0_readCard_X0_readNumber : GoodIn wsX0_readCard (wsV RX0 47 RX0 yX0_readNumber wsX0_readNumber) := goodIn_app (goodIn_of _ (by decide +kernel)) ggX0_readCard_X0_readNumber
set_option maxRecDepth 20000 in
theorem ggX0_readCard_X0_readSign : GoodIn wsX0_readCard wsX0_readSign := goodIn_r _ [29, 1, 2, 30, 31, 32, 7, 33, 9, 10, 11, 12, 13, 14, 53, 54, 55, 56, 57] (by decide +kernel) (by decide +kernel)
set_option maxRecDepth 20000 in
theorem gX0_readCard_X0_readSign : GoodIn wsX0_readCard (wsV RX0 39 RX0 yX0_readSign wsX0_readSign) := goodIn_app (goodIn_of _ (by decide +kernel)) ggX0_readCard_X0_readSign
set_option maxRecDepth 20000 in
theorem ggX0_readCard_X0_isAhead : GoodIn wsX0_readCard wsX0_isAhead := goodIn_r _ [33, 9, 2, 10, 11, 12, 7, 13, 14, 53, 54, 55, 56, 57] (by decide +kernel) (by decide +kernel)
set_option maxRecDepth 20000 in
theorem gX0_readCard_X0_isAhead : GoodIn wsX0_readCard (wsV RX0 51 RX0 yX0_isAhead wsX0_isAhead) := goodIn_app (goodIn_of _ (by decide +kernel)) ggX0_readCard_X0_isAhead
set_option maxRecDepth 20000 in
theorem ggX0_readCard_X1_append : GoodIn wsX0_readCard wsX1_append := goodIn_r _ [38, 39, 40, 41, 42, 37, 43, 44, 45, 46, 47, 48, 49, 50, 51, 52, 58, 59] (by decide +kernel) (by decide +kernel)
set_option maxRecDepth 20000 in
theorem gX0_readCard_X1_append : GoodIn wsX0_readCard (wsV RX0 55 RX1 yX1_append wsX1_append) := goodIn_app (goodIn_of _ (by decide +kernel)) ggX0_readCard_X1_append
theorem dX0_readCard_0 : decode cX0_readCard 0 = .ok (.aload_n 0, 1) := by decide +kernel
theorem dX0_readCard_1 : decode cX0_readCard 1 = .ok (.invokevirtual 43, 3) := by decide +kernel
theorem dX0_readCard_4 : decode cX0_readCard 4 = .ok (.istore_n 1, 1) := by decide +kernel
theorem dX0_readCard_5 : decode cX0_readCard 5 = .ok (.aload_n 0, 1) := by decide +kernel
theorem dX0_readCard_6 : decode cX0_readCard 6 = .ok (.iconst 1, 1) := by decide +kernel
theorem dX0_readCard_7 : decode cX0_readCard 7 = .ok (.invokevirtual 47, 3) := by decide +kernel
theorem dX0_readCard_10 : decode cX0_readCard 10 = .ok (.istore_n 2, 1) := by decide +kernel
theorem dX0_readCard_11 : decode cX0_readCard 11 = .ok (.aload_n 0, 1) := by decide +kernel
theorem dX0_readCard_12 : decode cX0_readCard 12 = .ok (.bipush 44, 2) := by decide +kernel
theorem dX0_readCard_14 : decode cX0_readCard 14 = .ok (.invokevirtual 39, 3) := by decide +kernel
theorem dX0_readCard_17 : decode cX0_readCard 17 = .ok (.aload_n 0, 1) := by decide +kernel
theorem dX0_readCard_18 : decode cX0_readCard 18 = .ok (.iconst 2, 1) := by decide +kernel
theorem dX0_readCard_19 : decode cX0_readCard 19 = .ok (.invokevirtual 47, 3) := by decide +kernel
theorem dX0_readCard_22 : decode cX0_readCard 22 = .ok (.istore_n 3, 1) := by decide +kernel
theorem dX0_readCard_23 : decode cX0_readCard 23 = .ok (.aload_n 0, 1) := by decide +kernel
theorem dX0_readCard_24 : decode cX0_readCard 24 = .ok (.bipush 44, 2) := by decide +kernel
theorem dX0_readCard_26 : decode cX0_readCard 26 = .ok (.invokevirtual 39, 3) := by decide +kernel
theorem dX0_readCard_29 : decode cX0_readCard 29 = .ok (.aload_n 0, 1) := by decide +kernel
theorem dX0_readCard_30 : decode cX0_readCard 30 = .ok (.iconst 3, 1) := by decide +kernel
theorem dX0_readCard_31 : decode cX0_readCard 31 = .ok (.invokevirtual 47, 3) := by decide +kernel
theorem dX0_readCard_34 : decode cX0_readCard 34 = .ok (.istore 4, 2) := by decide +kernel
theorem dX0_readCard_36 : decode cX0_readCard 36 = .ok (.iconst 0, 1) := by decide +kernel
theorem dX0_readCard_37 : decode cX0_readCard 37 = .ok (.istore 5, 2) := by decide +kernel
theorem dX0_readCard_39 : decode cX0_readCard 39 = .ok (.aload_n 0, 1) := by decide +kernel
theorem dX0_readCard_40 : decode cX0_readCard 40 = .ok (.getfield 32, 3) := by decide +kernel
theorem dX0_readCard_43 : decode cX0_readCard 43 = .ok (.ifCond .ne 25, 3) := by decide +kernel
theorem dX0_readCard_46 : decode cX0_readCard 46 = .ok (.aload_n 0, 1) := by decide +kernel
theorem dX0_readCard_47 : decode cX0_readCard 47 = .ok (.bipush 42, 2) := by decide +kernel
theorem dX0_readCard_49 : decode cX0_readCard 49 = .ok (.invokevirtual 51, 3) := by decide +kernel
theorem dX0_readCard_52 : decode cX0_readCard 52 = .ok (.ifCond .eq 16, 3) := by decide +kernel
theorem dX0_readCard_55 : decode cX0_readCard 55 = .ok (.iconst 1, 1) := by decide +kernel
theorem dX0_readCard_56 : decode cX0_readCard 56 = .ok (.istore 5, 2) := by decide +kernel
theorem dX0_readCard_58 : decode cX0_readCard 58 = .ok (.aload_n 0, 1) := by decide +kernel
theorem dX0_readCard_59 : decode cX0_readCard 59 = .ok (.dup, 1) := by decide +kernel
theorem dX0_readCard_60 : decode cX0_readCard 60 = .ok (.getfield 29, 3) := by decide +kernel
theorem dX0_readCard_63 : decode cX0_readCard 63 = .ok (.iconst 1, 1) := by decide +kernel
theorem dX0_readCard_64 : decode cX0_readCard 64 = .ok (.iadd, 1) := by decide +kernel
theorem dX0_readCard_65 : decode cX0_readCard 65 = .ok (.putfield 29, 3) := by decide +kernel
theorem dX0_readCard_68 : decode cX0_readCard 68 = .ok (.aload_n 0, 1) := by decide +kernel
theorem dX0_readCard_69 : decode cX0_readCard 69 = .ok (.getfield 32, 3) := by decide +kernel
theorem dX0_readCard_72 : decode cX0_readCard 72 = .ok (.ifCond .ne 17, 3) := by decide +kernel
theorem dX0_readCard_75 : decode cX0_readCard 75 = .ok (.aload_n 0, 1) := by decide +kernel
theorem dX0_readCard_76 : decode cX0_readCard 76 = .ok (.getfield 18, 3) := by decide +kernel
theorem dX0_readCard_79 : decode cX0_readCard 79 = .ok (.iload_n 1, 1) := by decide +kernel
theorem dX0_readCard_80 : decode cX0_readCard 80 = .ok (.iload_n 2, 1) := by decide +kernel
theorem dX0_readCard_81 : decode cX0_readCard 81 = .ok (.iload_n 3, 1) := by decide +kernel
theorem dX0_readCard_82 : decode cX0_readCard 82 = .ok (.iload 4, 2) := by decide +kernel
theorem dX0_readCard_84 : decode cX0_readCard 84 = .ok (.iload 5, 2) := by decide +kernel
theorem dX0_readCard_86 : decode cX0_readCard 86 = .ok (.invokevirtual 55, 3) := by decide +kernel
theorem dX0_readCard_89 : decode cX0_readCard 89 = .ok (.return_, 1) := by decide +kernel
theorem dX0_hasAhead_0 : decode cX0_hasAhead 0 = .ok (.aload_n 0, 1) := by decide +kernel
theorem dX0_hasAhead_1 : decode cX0_hasAhead 1 = .ok (.getfield 29, 3) := by decide +kernel
theorem dX0_hasAhead_4 : decode cX0_hasAhead 4 = .ok (.ifCond .lt 30, 3) := by decide +kernel
theorem dX0_hasAhead_7 : decode cX0_hasAhead 7 = .ok (.aload_n 0, 1) := by decide +kernel
theorem dX0_hasAhead_8 : decode cX0_hasAhead 8 = .ok (.getfield 29, 3) := by decide +kernel
theorem dX0_hasAhead_11 : decode cX0_hasAhead 11 = .ok (.aload_n 0, 1) := by decide +kernel
theorem dX0_hasAhead_12 : decode cX0_hasAhead 12 = .ok (.getfield 22, 3) := by decide +kernel
theorem dX0_hasAhead_15 : decode cX0_hasAhead 15 = .ok (.if_icmp .ge 19, 3) := by decide +kernel
theorem dX0_hasAhead_18 : decode cX0_hasAhead 18 = .ok (.aload_n 0, 1) := by decide +kernel
theorem dX0_hasAhead_19 : decode cX0_hasAhead 19 = .ok (.getfield 29, 3) := by decide +kernel
theorem dX0_hasAhead_22 : decode cX0_hasAhead 22 = .ok (.aload_n 0, 1) := by decide +kernel
theorem dX0_hasAhead_23 : decode cX0_hasAhead 23 = .ok (.getfield 9, 3) := by decide +kernel
theorem dX0_hasAhead_26 : decode cX0_hasAhead 26 = .ok (.arraylength, 1) := by decide +kernel
theorem dX0_hasAhead_27 : decode cX0_hasAhead 27 = .ok (.if_icmp .ge 7, 3) := by decide +kernel
theorem dX0_hasAhead_30 : decode cX0_hasAhead 30 = .ok (.iconst 1, 1) := by decide +kernel
theorem dX0_hasAhead_31 : decode cX0_hasAhead 31 = .ok (.goto 4, 3) := by decide +kernel
theorem dX0_hasAhead_34 : decode cX0_hasAhead 34 = .ok (.iconst 0, 1) := by decide +kernel
theorem dX0_hasAhead_35 : decode cX0_hasAhead 35 = .ok (.ireturn, 1) := by decide +kernel
set_option maxRecDepth 20000 in
theorem ggX0_isAhead_X0_hasAhead : GoodIn wsX0_isAhead wsX0_hasAhead := goodIn_r _ [7, 2, 8, 1, 9, 10, 11, 12, 13] (by decide +kernel) (by decide +kernel)
set_option maxRecDepth 20000 in
theorem gX0_isAhead_X0_hasAhead : GoodIn wsX0_isAhead (wsV RX0 59 RX0 yX0_hasAhead wsX0_hasAhead) := goodIn_app (goodIn_of _ (by decide +kernel)) ggX0_isAhead_X0_hasAhead
theorem dX0_isAhead_0 : decode cX0_isAhead 0 = .ok (.aload_n 0, 1) := by decide +kernel
theorem dX0_isAhead_1 : decode cX0_isAhead 1 = .ok (.invokevirtual 59, 3) := by decide +kernel
theorem dX0_isAhead_4 : decode cX0_isAhead 4 = .ok (.ifCond .eq 20, 3) := by decide +kernel
theorem dX0_isAhead_7 : decode cX0_isAhead 7 = .ok (.aload_n 0, 1) := by decide +kernel
theorem dX0_isAhead_8 : decode cX0_isAhead 8 = .ok (.getfield 9, 3) := by decide +kernel
theorem dX0_isAhead_11 : decode cX0_isAhead 11 = .ok (.aload_n 0, 1) := by decide +kernel
theorem dX0_isAhead_12 : decode cX0_isAhead 12 = .ok (.getfield 29, 3) := by decide +kernel
theorem dX0_isAhead_15 : decode cX0_isAhead 15 = .ok (.caload, 1) := by decide +kernel
theorem dX0_isAhead_16 : decode cX0_isAhead 16 = .ok (.iload_n 1, 1) := by decide +kernel
theorem dX0_isAhead_17 : decode cX0_isAhead 17 = .ok (.if_icmp .ne 7, 3) := by decide +kernel
theorem dX0_isAhead_20 : decode cX0_isAhead 20 = .ok (.iconst 1, 1) := by decide +kernel
theorem dX0_isAhead_21 : decode cX0_isAhead 21 = .ok (.goto 4, 3) := by decide +kernel
theorem dX0_isAhead_24 : decode cX0_isAhead 24 = .ok (.iconst 0, 1) := by decide +kernel
theorem dX0_isAhead_25 : decode cX0_isAhead 25 = .ok (.ireturn, 1) := by decide +kernel
set_option maxRecDepth 20000 in
theorem ggX0_readSign_X0_isAhead : GoodIn wsX0_readSign wsX0_isAhead := goodIn_r _ [7, 8, 2, 9, 10, 11, 6, 12, 13, 14, 15, 16, 17, 18] (by decide +kernel) (by decide +kernel)
set_option maxRecDepth 20000 in
theorem gX0_readSign_X0_isAhead : GoodIn wsX0_readSign (wsV RX0 51 RX0 yX0_isAhead wsX0_isAhead) := goodIn_app (goodIn_of _ (by decide +kernel)) ggX0_readSign_X0_isAhead
theorem dX0_readSign_0 : decode cX0_readSign 0 = .ok (.aload_n 0, 1) := by decide +kernel
theorem dX0_readSign_1 : decode cX0_readSign 1 = .ok (.getfield 32, 3) := by decide +kernel
theorem dX0_readSign_4 : decode cX0_readSign 4 = .ok (.ifCond .eq 4, 3) := by decide +kernel
theorem dX0_readSign_7 : decode cX0_readSign 7 = .ok (.return_, 1) := by decide +kernel
theorem dX0_readSign_8 : decode cX0_readSign 8 = .ok (.aload_n 0, 1) := by decide +kernel
theorem dX0_readSign_9 : decode cX0_readSign 9 = .ok (.iload_n 1, 1) := by decide +kernel
theorem dX0_readSign_10 : decode cX0_readSign 10 = .ok (.invokevirtual 51, 3) := by decide +kernel
theorem dX0_readSign_13 : decode cX0_readSign 13 = .ok (.ifCond .eq 16, 3) := by decide +kernel
theorem dX0_readSign_16 : decode cX0_readSign 16 = .ok (.aload_n 0, 1) := by decide +kernel
theorem dX0_readSign_17 : decode cX0_readSign 17 = .ok (.dup, 1) := by decide +kernel
theorem dX0_readSign_18 : decode cX0_readSign 18 = .ok (.getfield 29, 3) := by decide +kernel
theorem dX0_readSign_21 : decode cX0_readSign 21 = .ok (.iconst 1, 1) := by decide +kernel
theorem dX0_readSign_22 : decode cX0_readSign 22 = .ok (.iadd, 1) := by decide +kernel
theorem dX0_readSign_23 : decode cX0_readSign 23 = .ok (.putfield 29, 3) := by decide +kernel
theorem dX0_readSign_26 : decode cX0_readSign 26 = .ok (.goto 8, 3) := by decide +kernel
theorem dX0_readSign_29 : decode cX0_readSign 29 = .ok (.aload_n 0, 1) := by decide +kernel
theorem dX0_readSign_30 : decode cX0_readSign 30 = .ok (.iconst 1, 1) := by decide +kernel
theorem dX0_readSign_31 : decode cX0_readSign 31 = .ok (.putfield 32, 3) := by decide +kernel
theorem dX0_readSign_34 : decode cX0_readSign 34 = .ok (.return_, 1) := by decide +kernel
set_option maxRecDepth 20000 in
theorem ggX0_readThread_X0_hasAhead : GoodIn wsX0_readThread wsX0_hasAhead := goodIn_r _ [8, 3, 9, 2, 13, 14, 15, 16, 17] (by decide +kernel) (by decide +kernel)
set_option maxRecDepth 20000 in
theorem gX0_readThread_X0_hasAhead : GoodIn wsX0_readThread (wsV RX0 59 RX0 yX0_hasAhead wsX0_hasAhead) := goodIn_app (goodIn_of _ (by decide +kernel)) ggX0_readThread_X0_hasAhead
set_option maxRecDepth 20000 in
theorem ggX0_readThread_X8_isThread : GoodIn wsX0_readThread wsX8_isThread := goodIn_r _ [12] (by decide +kernel) (by decide +kernel)
set_option maxRecDepth 20000 in
theorem gX0_readThread_X8_isThread_n63 : GoodIn wsX0_readThread (wsX8_isThread) := ggX0_readThread_X8_isThread
theorem dX0_readThread_0 : decode cX0_readThread 0 = .ok (.aload_n 0, 1) := by decide +kernel
theorem dX0_readThread_1 : decode cX0_readThread 1 = .ok (.getfield 32, 3) := by decide +kernel
theorem dX0_readThread_4 : decode cX0_readThread 4 = .ok (.ifCond .eq 6, 3) := by decide +kernel
theorem dX0_readThread_7 : decode cX0_readThread 7 = .ok (.bipush (-5), 2) := by decide +kernel
theorem dX0_readThread_9 : decode cX0_readThread 9 = .ok (.ireturn, 1) := by decide +kernel
theorem dX0_readThread_10 : decode cX0_readThread 10 = .ok (.aload_n 0, 1) := by decide +kernel
theorem dX0_readThread_11 : decode cX0_readThread 11 = .ok (.invokevirtual 59, 3) := by decide +kernel
theorem dX0_readThread_14 : decode cX0_readThread 14 = .ok (.ifCond .eq 18, 3) := by decide +kernel
theorem dX0_readThread_17 : decode cX0_readThread 17 = .ok (.aload_n 0, 1) := by decide +kernel
theorem dX0_readThread_18 : decode cX0_readThread 18 = .ok (.getfield 9, 3) := by decide +kernel
theorem dX0_readThread_21 : decode cX0_readThread 21 = .ok (.aload_n 0, 1) := by decide +kernel
theorem dX0_readThread_22 : decode cX0_readThread 22 = .ok (.getfield 29, 3) := by decide +kernel
theorem dX0_readThread_25 : decode cX0_readThread 25 = .ok (.caload, 1) := by decide +kernel
theorem dX0_readThread_26 : decode cX0_readThread 26 = .ok (.bipush 65, 2) := by decide +kernel
theorem dX0_readThread_28 : decode cX0_readThread 28 = .ok (.isub, 1) := by decide +kernel
theorem dX0_readThread_29 : decode cX0_readThread 29 = .ok (.goto 5, 3) := by decide +kernel
theorem dX0_readThread_32 : decode cX0_readThread 32 = .ok (.bipush (-5), 2) := by decide +kernel
theorem dX0_readThread_34 : decode cX0_readThread 34 = .ok (.istore_n 1, 1) := by decide +kernel
theorem dX0_readThread_35 : decode cX0_readThread 35 = .ok (.iload_n 1, 1) := by decide +kernel
theorem dX0_readThread_36 : decode cX0_readThread 36 = .ok (.invokestatic 63, 3) := by decide +kernel
theorem dX0_readThread_39 : decode cX0_readThread 39 = .ok (.ifCond .eq 16, 3) := by decide +kernel
theorem dX0_readThread_42 : decode cX0_readThread 42 = .ok (.aload_n 0, 1) := by decide +kernel
theorem dX0_readThread_43 : decode cX0_readThread 43 = .ok (.dup, 1) := by decide +kernel
theorem dX0_readThread_44 : decode cX0_readThread 44 = .ok (.getfield 29, 3) := by decide +kernel
theorem dX0_readThread_47 : decode cX0_readThread 47 = .ok (.iconst 1, 1) := by decide +kernel
theorem dX0_readThread_48 : decode cX0_readThread 48 = .ok (.iadd, 1) := by decide +kernel
theorem dX0_readThread_49 : decode cX0_readThread 49 = .ok (.putfield 29, 3) := by decide +kernel
theorem dX0_readThread_52 : decode cX0_readThread 52 = .ok (.goto 8, 3) := by decide +kernel
theorem dX0_readThread_55 : decode cX0_readThread 55 = .ok (.aload_n 0, 1) := by decide +kernel
theorem dX0_readThread_56 : decode cX0_readThread 56 = .ok (.iconst 1, 1) := by decide +kernel
theorem dX0_readThread_57 : decode cX0_readThread 57 = .ok (.putfield 32, 3) := by decide +kernel
theorem dX0_readThread_60 : decode cX0_readThread 60 = .ok (.iload_n 1, 1) := by decide +kernel
theorem dX0_readThread_61 : decode cX0_readThread 61 = .ok (.ireturn, 1) := by decide +kernel
set_option maxRecDepth 20000 in
theorem ggX0_digitAhead_X0_hasAhead : GoodIn wsX0_digitAhead wsX0_hasAhead := goodIn_r _ [7, 2, 8, 1, 9, 10, 11, 12, 13] (by decide +kernel) (by decide +kernel)
set_option maxRecDepth 20000 in
theorem gX0_digitAhead_X0_hasAhead : GoodIn wsX0_digitAhead (wsV RX0 59 RX0 yX0_hasAhead wsX0_hasAhead) := goodIn_app (goodIn_of _ (by decide +kernel)) ggX0_digitAhead_X0_hasAhead
theorem dX0_digitAhead_0 : decode cX0_digitAhead 0 = .ok (.aload_n 0, 1) := by decide +kernel
theorem dX0_digitAhead_1 : decode cX0_digitAhead 1 = .ok (.invokevirtual 59, 3) := by decide +kernel
theorem dX0_digitAhead_4 : decode cX0_digitAhead 4 = .ok (.ifCond .eq 18, 3) := by decide +kernel
theorem dX0_digitAhead_7 : decode cX0_digitAhead 7 = .ok (.aload_n 0, 1) := by decide +kernel
theorem dX0_digitAhead_8 : decode cX0_digitAhead 8 = .ok (.getfield 9, 3) := by decide +kernel
theorem dX0_digitAhead_11 : decode cX0_digitAhead 11 = .ok (.aload_n 0, 1) := by decide +kernel
theorem dX0_digitAhead_12 : decode cX0_digitAhead 12 = .ok (.getfield 29, 3) := by decide +kernel
theorem dX0_digitAhead_15 : decode cX0_digitAhead 15 = .ok (.caload, 1) := by decide +kernel
theorem dX0_digitAhead_16 : decode cX0_digitAhead 16 = .ok (.bipush 48, 2) := by decide +kernel
theorem dX0_digitAhead_18 : decode cX0_digitAhead 18 = .ok (.isub, 1) := by decide +kernel
theorem dX0_digitAhead_19 : decode cX0_digitAhead 19 = .ok (.goto 5, 3) := by decide +kernel
theorem dX0_digitAhead_22 : decode cX0_digitAhead 22 = .ok (.bipush (-5), 2) := by decide +kernel
theorem dX0_digitAhead_24 : decode cX0_digitAhead 24 = .ok (.istore_n 1, 1) := by decide +kernel
theorem dX0_digitAhead_25 : decode cX0_digitAhead 25 = .ok (.iload_n 1, 1) := by decide +kernel
theorem dX0_digitAhead_26 : decode cX0_digitAhead 26 = .ok (.ifCond .lt 13, 3) := by decide +kernel
theorem dX0_digitAhead_29 : decode cX0_digitAhead 29 = .ok (.iload_n 1, 1) := by decide +kernel
theorem dX0_digitAhead_30 : decode cX0_digitAhead 30 = .ok (.bipush 9, 2) := by decide +kernel
theorem dX0_digitAhead_32 : decode cX0_digitAhead 32 = .ok (.if_icmp .gt 7, 3) := by decide +kernel
theorem dX0_digitAhead_35 : decode cX0_digitAhead 35 = .ok (.iload_n 1, 1) := by decide +kernel
theorem dX0_digitAhead_36 : decode cX0_digitAhead 36 = .ok (.goto 5, 3) := by decide +kernel
theorem dX0_digitAhead_39 : decode cX0_digitAhead 39 = .ok (.bipush (-5), 2) := by decide +kernel
theorem dX0_digitAhead_41 : decode cX0_digitAhead 41 = .ok (.ireturn, 1) := by decide +kernel
set_option maxRecDepth 20000 in
theorem ggX0_readNumber_X0_digitAhead : GoodIn wsX0_readNumber wsX0_digitAhead := goodIn_r _ [8, 9, 2, 10, 11, 12, 7, 13, 3, 14, 15, 16, 17, 18] (by decide +kernel) (by decide +kernel)
set_option maxRecDepth 20000 in
theorem gX0_readNumber_X0_digitAhead : GoodIn wsX0_readNumber (wsV RX0 67 RX0 yX0_digitAhead wsX0_digitAhead) := goodIn_app (goodIn_of _ (by decide +kernel)) ggX0_readNumber_X0_digitAhead
theorem dX0_readNumber_0 : decode cX0_readNumber 0 = .ok (.aload_n 0, 1) := by decide +kernel
theorem dX0_readNumber_1 : decode cX0_readNumber 1 = .ok (.getfield 32, 3) := by decide +kernel
theorem dX0_readNumber_4 : decode cX0_readNumber 4 = .ok (.ifCond .ne 12, 3) := by decide +kernel
theorem dX0_readNumber_7 : decode cX0_readNumber 7 = .ok (.iload_n 1, 1) := by decide +kernel
theorem dX0_readNumber_8 : decode cX0_readNumber 8 = .ok (.ifCond .lt 8, 3) := by decide +kernel
theorem dX0_readNumber_11 : decode cX0_readNumber 11 = .ok (.iload_n 1, 1) := by decide +kernel
theorem dX0_readNumber_12 : decode cX0_readNumber 12 = .ok (.iconst 5, 1) := by decide +kernel
theorem dX0_readNumber_13 : decode cX0_readNumber 13 = .ok (.if_icmp .lt 6, 3) := by decide +kernel
theorem dX0_readNumber_16 : decode cX0_readNumber 16 = .ok (.bipush (-5), 2) := by decide +kernel
theorem dX0_readNumber_18 : decode cX0_readNumber 18 = .ok (.ireturn, 1) := by decide +kernel
theorem dX0_readNumber_19 : decode cX0_readNumber 19 = .ok (.aload_n 0, 1) := by decide +kernel
theorem dX0_readNumber_20 : decode cX0_readNumber 20 = .ok (.invokevirtual 67, 3) := by decide +kernel
theorem dX0_readNumber_23 : decode cX0_readNumber 23 = .ok (.istore_n 2, 1) := by decide +kernel
theorem dX0_readNumber_24 : decode cX0_readNumber 24 = .ok (.iload_n 2, 1) := by decide +kernel
theorem dX0_readNumber_25 : decode cX0_readNumber 25 = .ok (.getstatic 70, 3) := by decide +kernel
theorem dX0_readNumber_28 : decode cX0_readNumber 28 = .ok (.iload_n 1, 1) := by decide +kernel
theorem dX0_readNumber_29 : decode cX0_readNumber 29 = .ok (.iaload, 1) := by decide +kernel
theorem dX0_readNumber_30 : decode cX0_readNumber 30 = .ok (.if_icmp .ge 11, 3) := by decide +kernel
theorem dX0_readNumber_33 : decode cX0_readNumber 33 = .ok (.aload_n 0, 1) := by decide +kernel
theorem dX0_readNumber_34 : decode cX0_readNumber 34 = .ok (.iconst 1, 1) := by decide +kernel
theorem dX0_readNumber_35 : decode cX0_readNumber 35 = .ok (.putfield 32, 3) := by decide +kernel
theorem dX0_readNumber_38 : decode cX0_readNumber 38 = .ok (.bipush (-5), 2) := by decide +kernel
theorem dX0_readNumber_40 : decode cX0_readNumber 40 = .ok (.ireturn, 1) := by decide +kernel
theorem dX0_readNumber_41 : decode cX0_readNumber 41 = .ok (.aload_n 0, 1) := by decide +kernel
theorem dX0_readNumber_42 : decode cX0_readNumber 42 = .ok (.dup, 1) := by decide +kernel
theorem dX0_readNumber_43 : decode cX0_readNumber 43 = .ok (.getfield 29, 3) := by decide +kernel
theorem dX0_readNumber_46 : decode cX0_readNumber 46 = .ok (.iconst 1, 1) := by decide +kernel
theorem dX0_readNumber_47 : decode cX0_readNumber 47 = .ok (.iadd, 1) := by decide +kernel
theorem dX0_readNumber_48 : decode cX0_readNumber 48 = .ok (.putfield 29, 3) := by decide +kernel
theorem dX0_readNumber_51 : decode cX0_readNumber 51 = .ok (.aload_n 0, 1) := by decide +kernel
theorem dX0_readNumber_52 : decode cX0_readNumber 52 = .ok (.getfield 29, 3) := by decide +kernel
theorem dX0_readNumber_55 : decode cX0_readNumber 55 = .ok (.aload_n 0, 1) := by decide +kernel
theorem dX0_readNumber_56 : decode cX0_readNumber 56 = .ok (.getfield 22, 3) := by decide +kernel
theorem dX0_readNumber_59 : decode cX0_readNumber 59 = .ok (.if_icmp .ge 54, 3) := by decide +kernel
theorem dX0_readNumber_62 : decode cX0_readNumber 62 = .ok (.aload_n 0, 1) := by decide +kernel
theorem dX0_readNumber_63 : decode cX0_readNumber 63 = .ok (.invokevirtual 67, 3) := by decide +kernel
theorem dX0_readNumber_66 : decode cX0_readNumber 66 = .ok (.istore_n 3, 1) := by decide +kernel
theorem dX0_readNumber_67 : decode cX0_readNumber 67 = .ok (.iload_n 3, 1) := by decide +kernel
theorem dX0_readNumber_68 : decode cX0_readNumber 68 = .ok (.bipush (-5), 2) := by decide +kernel
theorem dX0_readNumber_70 : decode cX0_readNumber 70 = .ok (.if_icmp .eq 21, 3) := by decide +kernel
theorem dX0_readNumber_73 : decode cX0_readNumber 73 = .ok (.iload_n 2, 1) := by decide +kernel
theorem dX0_readNumber_74 : decode cX0_readNumber 74 = .ok (.ifCond .eq 17, 3) := by decide +kernel
theorem dX0_readNumber_77 : decode cX0_readNumber 77 = .ok (.iload_n 2, 1) := by decide +kernel
theorem dX0_readNumber_78 : decode cX0_readNumber 78 = .ok (.bipush 10, 2) := by decide +kernel
theorem dX0_readNumber_80 : decode cX0_readNumber 80 = .ok (.imul, 1) := by decide +kernel
theorem dX0_readNumber_81 : decode cX0_readNumber 81 = .ok (.iload_n 3, 1) := by decide +kernel
theorem dX0_readNumber_82 : decode cX0_readNumber 82 = .ok (.iadd, 1) := by decide +kernel
theorem dX0_readNumber_83 : decode cX0_readNumber 83 = .ok (.getstatic 74, 3) := by decide +kernel
theorem dX0_readNumber_86 : decode cX0_readNumber 86 = .ok (.iload_n 1, 1) := by decide +kernel
theorem dX0_readNumber_87 : decode cX0_readNumber 87 = .ok (.iaload, 1) := by decide +kernel
theorem dX0_readNumber_88 : decode cX0_readNumber 88 = .ok (.if_icmp .le 5, 3) := by decide +kernel
theorem dX0_readNumber_91 : decode cX0_readNumber 91 = .ok (.iload_n 2, 1) := by decide +kernel
theorem dX0_readNumber_92 : decode cX0_readNumber 92 = .ok (.ireturn, 1) := by decide +kernel
theorem dX0_readNumber_93 : decode cX0_readNumber 93 = .ok (.iload_n 2, 1) := by decide +kernel
theorem dX0_readNumber_94 : decode cX0_readNumber 94 = .ok (.bipush 10, 2) := by decide +kernel
theorem dX0_readNumber_96 : decode cX0_readNumber 96 = .ok (.imul, 1) := by decide +kernel
theorem dX0_readNumber_97 : decode cX0_readNumber 97 = .ok (.iload_n 3, 1) := by decide +kernel
theorem dX0_readNumber_98 : decode cX0_readNumber 98 = .ok (.iadd, 1) := by decide +kernel
theorem dX0_readNumber_99 : decode cX0_readNumber 99 = .ok (.istore_n 2, 1) := by decide +kernel
theorem dX0_readNumber_100 : decode cX0_readNumber 100 = .ok (.aload_n 0, 1) := by decide +kernel
theorem dX0_readNumber_101 : decode cX0_readNumber 101 = .ok (.dup, 1) := by decide +kernel
theorem dX0_readNumber_102 : decode cX0_readNumber 102 = .ok (.getfield 29, 3) := by decide +kernel
theorem dX0_readNumber_105 : decode cX0_readNumber 105 = .ok (.iconst 1, 1) := by decide +kernel
theorem dX0_readNumber_106 : decode cX0_readNumber 106 = .ok (.iadd, 1) := by decide +kernel
theorem dX0_readNumber_107 : decode cX0_readNumber 107 = .ok (.putfield 29, 3) := by decide +kernel
theorem dX0_readNumber_110 : decode cX0_readNumber 110 = .ok (.goto (-59), 3) := by decide +kernel
theorem dX0_readNumber_113 : decode cX0_readNumber 113 = .ok (.iload_n 2, 1) := by decide +kernel
theorem dX0_readNumber_114 : decode cX0_readNumber 114 = .ok (.ireturn, 1) := by decide +kernel
theorem dX1_init_0 : decode cX1_init 0 = .ok (.aload_n 0, 1) := by decide +kernel
theorem dX1_init_1 : decode cX1_init 1 = .ok (.invokespecial 3, 3) := by decide +kernel
theorem dX1_init_4 : decode cX1_init 4 = .ok (.aload_n 0, 1) := by decide +kernel
theorem dX1_init_5 : decode cX1_init 5 = .ok (.sipush 200, 3) := by decide +kernel
theorem dX1_init_8 : decode cX1_init 8 = .ok (.newarray .int, 2) := by decide +kernel
theorem dX1_init_10 : decode cX1_init 10 = .ok (.putfield 9, 3) := by decide +kernel
theorem dX1_init_13 : decode cX1_init 13 = .ok (.return_, 1) := by decide +kernel
theorem dX1_size_0 : decode cX1_size 0 = .ok (.aload_n 0, 1) := by decide +kernel
theorem dX1_size_1 : decode cX1_size 1 = .ok (.getfield 15, 3) := by decide +kernel
theorem dX1_size_4 : decode cX1_size 4 = .ok (.ireturn, 1) := by decide +kernel
theorem dX1_has_0 : decode cX1_has 0 = .ok (.iload_n 1, 1) := by decide +kernel
theorem dX1_has_1 : decode cX1_has 1 = .ok (.ifCond .lt 15, 3) := by decide +kernel
theorem dX1_has_4 : decode cX1_has 4 = .ok (.iload_n 1, 1) := by decide +kernel
theorem dX1_has_5 : decode cX1_has 5 = .ok (.aload_n 0, 1) := by decide +kernel
theorem dX1_has_6 : decode cX1_has 6 = .ok (.getfield 15, 3) := by decide +kernel
theorem dX1_has_9 : decode cX1_has 9 = .ok (.if_icmp .ge 7, 3) := by decide +kernel
theorem dX1_has_12 : decode cX1_has 12 = .ok (.iconst 1, 1) := by decide +kernel
theorem dX1_has_13 : decode cX1_has 13 = .ok (.goto 4, 3) := by decide +kernel
theorem dX1_has_16 : decode cX1_has 16 = .ok (.iconst 0, 1) := by decide +kernel
theorem dX1_has_17 : decode cX1_has 17 = .ok (.ireturn, 1) := by decide +kernel
theorem dX1_hasRoomFor_0 : decode cX1_hasRoomFor 0 = .ok (.iload_n 1, 1) := by decide +kernel
theorem dX1_hasRoomFor_1 : decode cX1_hasRoomFor 1 = .ok (.bipush 40, 2) := by decide +kernel
theorem dX1_hasRoomFor_3 : decode cX1_hasRoomFor 3 = .ok (.aload_n 0, 1) := by decide +kernel
theorem dX1_hasRoomFor_4 : decode cX1_hasRoomFor 4 = .ok (.getfield 15, 3) := by decide +kernel
theorem dX1_hasRoomFor_7 : decode cX1_hasRoomFor 7 = .ok (.isub, 1) := by decide +kernel
theorem dX1_hasRoomFor_8 : decode cX1_hasRoomFor 8 = .ok (.if_icmp .gt 7, 3) := by decide +kernel
theorem dX1_hasRoomFor_11 : decode cX1_hasRoomFor 11 = .ok (.iconst 1, 1) := by decide +kernel
theorem dX1_hasRoomFor_12 : decode cX1_hasRoomFor 12 = .ok (.goto 4, 3) := by decide +kernel
theorem dX1_hasRoomFor_15 : decode cX1_hasRoomFor 15 = .ok (.iconst 0, 1) := by decide +kernel
theorem dX1_hasRoomFor_16 : decode cX1_hasRoomFor 16 = .ok (.ireturn, 1) := by decide +kernel
theorem dX1_clear_0 : decode cX1_clear 0 = .ok (.aload_n 0, 1) := by decide +kernel
theorem dX1_clear_1 : decode cX1_clear 1 = .ok (.iconst 0, 1) := by decide +kernel
theorem dX1_clear_2 : decode cX1_clear 2 = .ok (.putfield 15, 3) := by decide +kernel
theorem dX1_clear_5 : decode cX1_clear 5 = .ok (.return_, 1) := by decide +kernel
theorem dX1_copyFrom_0 : decode cX1_copyFrom 0 = .ok (.aload_n 1, 1) := by decide +kernel
theorem dX1_copyFrom_1 : decode cX1_copyFrom 1 = .ok (.getfield 9, 3) := by decide +kernel
theorem dX1_copyFrom_4 : decode cX1_copyFrom 4 = .ok (.iconst 0, 1) := by decide +kernel
theorem dX1_copyFrom_5 : decode cX1_copyFrom 5 = .ok (.aload_n 0, 1) := by decide +kernel
theorem dX1_copyFrom_6 : decode cX1_copyFrom 6 = .ok (.getfield 9, 3) := by decide +kernel
theorem dX1_copyFrom_9 : decode cX1_copyFrom 9 = .ok (.iconst 0, 1) := by decide +kernel
theorem dX1_copyFrom_10 : decode cX1_copyFrom 10 = .ok (.aload_n 0, 1) := by decide +kernel
theorem dX1_copyFrom_11 : decode cX1_copyFrom 11 = .ok (.getfield 9, 3) := by decide +kernel
theorem dX1_copyFrom_14 : decode cX1_copyFrom 14 = .ok (.arraylength, 1) := by decide +kernel
theorem dX1_copyFrom_15 : decode cX1_copyFrom 15 = .ok (.invokestatic 19, 3) := by decide +kernel
theorem dX1_copyFrom_18 : decode cX1_copyFrom 18 = .ok (.aload_n 0, 1) := by decide +kernel
theorem dX1_copyFrom_19 : decode cX1_copyFrom 19 = .ok (.aload_n 1, 1) := by decide +kernel
theorem dX1_copyFrom_20 : decode cX1_copyFrom 20 = .ok (.getfield 15, 3) := by decide +kernel
theorem dX1_copyFrom_23 : decode cX1_copyFrom 23 = .ok (.putfield 15, 3) := by decide +kernel
theorem dX1_copyFrom_26 : decode cX1_copyFrom 26 = .ok (.return_, 1) := by decide +kernel
set_option maxRecDepth 20000 in
theorem ggX1_number_X1_isNumber : GoodIn wsX1_number wsX1_isNumber := goodIn_r _ [6, 7, 8, 9] (by decide +kernel) (by decide +kernel)
set_option maxRecDepth 20000 in
theorem gX1_number_X1_isNumber : GoodIn wsX1_number (wsV RX1 25 RX1 yX1_isNumber wsX1_isNumber) := goodIn_app (goodIn_of _ (by decide +kernel)) ggX1_number_X1_isNumber
theorem dX1_number_0 : decode cX1_number 0 = .ok (.aload_n 0, 1) := by decide +kernel
theorem dX1_number_1 : decode cX1_number 1 = .ok (.iload_n 1, 1) := by decide +kernel
theorem dX1_number_2 : decode cX1_number 2 = .ok (.iload_n 2, 1) := by decide +kernel
theorem dX1_number_3 : decode cX1_number 3 = .ok (.invokevirtual 25, 3) := by decide +kernel
theorem dX1_number_6 : decode cX1_number 6 = .ok (.ifCond .eq 16, 3) := by decide +kernel
theorem dX1_number_9 : decode cX1_number 9 = .ok (.aload_n 0, 1) := by decide +kernel
theorem dX1_number_10 : decode cX1_number 10 = .ok (.getfield 9, 3) := by decide +kernel
theorem dX1_number_13 : decode cX1_number 13 = .ok (.iload_n 1, 1) := by decide +kernel
theorem dX1_number_14 : decode cX1_number 14 = .ok (.iconst 5, 1) := by decide +kernel
theorem dX1_number_15 : decode cX1_number 15 = .ok (.imul, 1) := by decide +kernel
theorem dX1_number_16 : decode cX1_number 16 = .ok (.iload_n 2, 1) := by decide +kernel
theorem dX1_number_17 : decode cX1_number 17 = .ok (.iadd, 1) := by decide +kernel
theorem dX1_number_18 : decode cX1_number 18 = .ok (.iaload, 1) := by decide +kernel
theorem dX1_number_19 : decode cX1_number 19 = .ok (.goto 5, 3) := by decide +kernel
theorem dX1_number_22 : decode cX1_number 22 = .ok (.bipush (-5), 2) := by decide +kernel
theorem dX1_number_24 : decode cX1_number 24 = .ok (.ireturn, 1) := by decide +kernel
set_option maxRecDepth 20000 in
theorem ggX1_put_X1_isNumber : GoodIn wsX1_put wsX1_isNumber := goodIn_r _ [6, 7, 8, 9] (by decide +kernel) (by decide +kernel)
set_option maxRecDepth 20000 in
theorem gX1_put_X1_isNumber : GoodIn wsX1_put (wsV RX1 25 RX1 yX1_isNumber wsX1_isNumber) := goodIn_app (goodIn_of _ (by decide +kernel)) ggX1_put_X1_isNumber
theorem dX1_put_0 : decode cX1_put 0 = .ok (.aload_n 0, 1) := by decide +kernel
theorem dX1_put_1 : decode cX1_put 1 = .ok (.iload_n 1, 1) := by decide +kernel
theorem dX1_put_2 : decode cX1_put 2 = .ok (.iload_n 2, 1) := by decide +kernel
theorem dX1_put_3 : decode cX1_put 3 = .ok (.invokevirtual 25, 3) := by decide +kernel
theorem dX1_put_6 : decode cX1_put 6 = .ok (.ifCond .eq 14, 3) := by decide +kernel
theorem dX1_put_9 : decode cX1_put 9 = .ok (.aload_n 0, 1) := by decide +kernel
theorem dX1_put_10 : decode cX1_put 10 = .ok (.getfield 9, 3) := by decide +kernel
theorem dX1_put_13 : decode cX1_put 13 = .ok (.iload_n 1, 1) := by decide +kernel
theorem dX1_put_14 : decode cX1_put 14 = .ok (.iconst 5, 1) := by decide +kernel
theorem dX1_put_15 : decode cX1_put 15 = .ok (.imul, 1) := by decide +kernel
theorem dX1_put_16 : decode cX1_put 16 = .ok (.iload_n 2, 1) := by decide +kernel
theorem dX1_put_17 : decode cX1_put 17 = .ok (.iadd, 1) := by decide +kernel
theorem dX1_put_18 : decode cX1_put 18 = .ok (.iload_n 3, 1) := by decide +kernel
theorem dX1_put_19 : decode cX1_put 19 = .ok (.iastore, 1) := by decide +kernel
theorem dX1_put_20 : decode cX1_put 20 = .ok (.return_, 1) := by decide +kernel
theorem dX1_isNumber_0 : decode cX1_isNumber 0 = .ok (.iload_n 1, 1) := by decide +kernel
theorem dX1_isNumber_1 : decode cX1_isNumber 1 = .ok (.ifCond .lt 30, 3) := by decide +kernel
theorem dX1_isNumber_4 : decode cX1_isNumber 4 = .ok (.iload_n 1, 1) := by decide +kernel
theorem dX1_isNumber_5 : decode cX1_isNumber 5 = .ok (.aload_n 0, 1) := by decide +kernel
theorem dX1_isNumber_6 : decode cX1_isNumber 6 = .ok (.getfield 15, 3) := by decide +kernel
theorem dX1_isNumber_9 : decode cX1_isNumber 9 = .ok (.if_icmp .ge 22, 3) := by decide +kernel
theorem dX1_isNumber_12 : decode cX1_isNumber 12 = .ok (.iload_n 1, 1) := by decide +kernel
theorem dX1_isNumber_13 : decode cX1_isNumber 13 = .ok (.bipush 40, 2) := by decide +kernel
theorem dX1_isNumber_15 : decode cX1_isNumber 15 = .ok (.if_icmp .ge 16, 3) := by decide +kernel
theorem dX1_isNumber_18 : decode cX1_isNumber 18 = .ok (.iload_n 2, 1) := by decide +kernel
theorem dX1_isNumber_19 : decode cX1_isNumber 19 = .ok (.ifCond .lt 12, 3) := by decide +kernel
theorem dX1_isNumber_22 : decode cX1_isNumber 22 = .ok (.iload_n 2, 1) := by decide +kernel
theorem dX1_isNumber_23 : decode cX1_isNumber 23 = .ok (.iconst 5, 1) := by decide +kernel
theorem dX1_isNumber_24 : decode cX1_isNumber 24 = .ok (.if_icmp .ge 7, 3) := by decide +kernel
theorem dX1_isNumber_27 : decode cX1_isNumber 27 = .ok (.iconst 1, 1) := by decide +kernel
theorem dX1_isNumber_28 : decode cX1_isNumber 28 = .ok (.goto 4, 3) := by decide +kernel
theorem dX1_isNumber_31 : decode cX1_isNumber 31 = .ok (.iconst 0, 1) := by decide +kernel
theorem dX1_isNumber_32 : decode cX1_isNumber 32 = .ok (.ireturn, 1) := by decide +kernel
set_option maxRecDepth 20000 in
theorem ggX1_append_X1_hasRoomFor : GoodIn wsX1_append wsX1_hasRoomFor := goodIn_r _ [6, 1, 16, 17] (by decide +kernel) (by decide +kernel)
set_option maxRecDepth 20000 in
theorem gX1_append_X1_hasRoomFor : GoodIn wsX1_append (wsV RX1 29 RX1 yX1_hasRoomFor wsX1_hasRoomFor) := goodIn_app (goodIn_of _ (by decide +kernel)) ggX1_append_X1_hasRoomFor
set_option maxRecDepth 20000 in
theorem ggX1_append_X1_put : GoodIn wsX1_append wsX1_put := goodIn_r _ [10, 11, 12, 13, 14, 5, 15, 1, 16, 17] (by decide +kernel) (by decide +kernel)
set_option maxRecDepth 20000 in
theorem gX1_append_X1_put : GoodIn wsX1_append (wsV RX1 33 RX1 yX1_put wsX1_put) := goodIn_app (goodIn_of _ (by decide +kernel)) ggX1_append_X1_put
theorem dX1_append_0 : decode cX1_append 0 = .ok (.aload_n 0, 1) := by decide +kernel
theorem dX1_append_1 : decode cX1_append 1 = .ok (.iconst 1, 1) := by decide +kernel
theorem dX1_append_2 : decode cX1_append 2 = .ok (.invokevirtual 29, 3) := by decide +kernel
theorem dX1_append_5 : decode cX1_append 5 = .ok (.ifCond .ne 4, 3) := by decide +kernel
theorem dX1_append_8 : decode cX1_append 8 = .ok (.return_, 1) := by decide +kernel
theorem dX1_append_9 : decode cX1_append 9 = .ok (.aload_n 0, 1) := by decide +kernel
theorem dX1_append_10 : decode cX1_append 10 = .ok (.getfield 15, 3) := by decide +kernel
theorem dX1_append_13 : decode cX1_append 13 = .ok (.istore 6, 2) := by decide +kernel
theorem dX1_append_15 : decode cX1_append 15 = .ok (.aload_n 0, 1) := by decide +kernel
theorem dX1_append_16 : decode cX1_append 16 = .ok (.dup, 1) := by decide +kernel
theorem dX1_append_17 : decode cX1_append 17 = .ok (.getfield 15, 3) := by decide +kernel
theorem dX1_append_20 : decode cX1_append 20 = .ok (.iconst 1, 1) := by decide +kernel
theorem dX1_append_21 : decode cX1_append 21 = .ok (.iadd, 1) := by decide +kernel
theorem dX1_append_22 : decode cX1_append 22 = .ok (.putfield 15, 3) := by decide +kernel
theorem dX1_append_25 : decode cX1_append 25 = .ok (.aload_n 0, 1) := by decide +kernel
theorem dX1_append_26 : decode cX1_append 26 = .ok (.iload 6, 2) := by decide +kernel
theorem dX1_append_28 : decode cX1_append 28 = .ok (.iconst 0, 1) := by decide +kernel
theorem dX1_append_29 : decode cX1_append 29 = .ok (.iload_n 1, 1) := by decide +kernel
theorem dX1_append_30 : decode cX1_append 30 = .ok (.invokevirtual 33, 3) := by decide +kernel
theorem dX1_append_33 : decode cX1_append 33 = .ok (.aload_n 0, 1) := by decide +kernel
theorem dX1_append_34 : decode cX1_append 34 = .ok (.iload 6, 2) := by decide +kernel
theorem dX1_append_36 : decode cX1_append 36 = .ok (.iconst 1, 1) := by decide +kernel
theorem dX1_append_37 : decode cX1_append 37 = .ok (.iload_n 2, 1) := by decide +kernel
theorem dX1_append_38 : decode cX1_append 38 = .ok (.invokevirtual 33, 3) := by decide +kernel
theorem dX1_append_41 : decode cX1_append 41 = .ok (.aload_n 0, 1) := by decide +kernel
theorem dX1_append_42 : decode cX1_append 42 = .ok (.iload 6, 2) := by decide +kernel
theorem dX1_append_44 : decode cX1_append 44 = .ok (.iconst 2, 1) := by decide +kernel
theorem dX1_append_45 : decode cX1_append 45 = .ok (.iload_n 3, 1) := by decide +kernel
theorem dX1_append_46 : decode cX1_append 46 = .ok (.invokevirtual 33, 3) := by decide +kernel
theorem dX1_append_49 : decode cX1_append 49 = .ok (.aload_n 0, 1) := by decide +kernel
theorem dX1_append_50 : decode cX1_append 50 = .ok (.iload 6, 2) := by decide +kernel
theorem dX1_append_52 : decode cX1_append 52 = .ok (.iconst 3, 1) := by decide +kernel
theorem dX1_append_53 : decode cX1_append 53 = .ok (.iload 4, 2) := by decide +kernel
theorem dX1_append_55 : decode cX1_append 55 = .ok (.invokevirtual 33, 3) := by decide +kernel
theorem dX1_append_58 : decode cX1_append 58 = .ok (.aload_n 0, 1) := by decide +kernel
theorem dX1_append_59 : decode cX1_append 59 = .ok (.iload 6, 2) := by decide +kernel
theorem dX1_append_61 : decode cX1_append 61 = .ok (.iconst 4, 1) := by decide +kernel
theorem dX1_append_62 : decode cX1_append 62 = .ok (.iload 5, 2) := by decide +kernel
theorem dX1_append_64 : decode cX1_append 64 = .ok (.invokevirtual 33, 3) := by decide +kernel
theorem dX1_append_67 : decode cX1_append 67 = .ok (.return_, 1) := by decide +kernel
set_option maxRecDepth 20000 in
theorem ggX1_appendFrom_X1_hasRoomFor : GoodIn wsX1_appendFrom wsX1_hasRoomFor := goodIn_r _ [6, 1, 20, 21] (by decide +kernel) (by decide +kernel)
set_option maxRecDepth 20000 in
theorem gX1_appendFrom_X1_hasRoomFor : GoodIn wsX1_appendFrom (wsV RX1 29 RX1 yX1_hasRoomFor wsX1_hasRoomFor) := goodIn_app (goodIn_of _ (by decide +kernel)) ggX1_appendFrom_X1_hasRoomFor
set_option maxRecDepth 20000 in
theorem ggX1_appendFrom_X1_number : GoodIn wsX1_appendFrom wsX1_number := goodIn_r _ [10, 11, 12, 13, 14, 5, 15, 1, 20, 21] (by decide +kernel) (by decide +kernel)
set_option maxRecDepth 20000 in
theorem gX1_appendFrom_X1_number : GoodIn wsX1_appendFrom (wsV RX1 37 RX1 yX1_number wsX1_number) := goodIn_app (goodIn_of _ (by decide +kernel)) ggX1_appendFrom_X1_number
set_option maxRecDepth 20000 in
theorem ggX1_appendFrom_X1_put : GoodIn wsX1_appendFrom wsX1_put := goodIn_r _ [19, 11, 12, 13, 14, 5, 15, 1, 20, 21] (by decide +kernel) (by decide +kernel)
set_option maxRecDepth 20000 in
theorem gX1_appendFrom_X1_put : GoodIn wsX1_appendFrom (wsV RX1 33 RX1 yX1_put wsX1_put) := goodIn_app (goodIn_of _ (by decide +kernel)) ggX1_appendFrom_X1_put
theorem dX1_appendFrom_0 : decode cX1_appendFrom 0 = .ok (.aload_n 0, 1) := by decide +kernel
theorem dX1_appendFrom_1 : decode cX1_appendFrom 1 = .ok (.iconst 1, 1) := by decide +kernel
theorem dX1_appendFrom_2 : decode cX1_appendFrom 2 = .ok (.invokevirtual 29, 3) := by decide +kernel
theorem dX1_appendFrom_5 : decode cX1_appendFrom 5 = .ok (.ifCond .ne 4, 3) := by decide +kernel
theorem dX1_appendFrom_8 : decode cX1_appendFrom 8 = .ok (.return_, 1) := by decide +kernel
theorem dX1_appendFrom_9 : decode cX1_appendFrom 9 = .ok (.aload_n 0, 1) := by decide +kernel
theorem dX1_appendFrom_10 : decode cX1_appendFrom 10 = .ok (.getfield 15, 3) := by decide +kernel
theorem dX1_appendFrom_13 : decode cX1_appendFrom 13 = .ok (.istore_n 3, 1) := by decide +kernel
theorem dX1_appendFrom_14 : decode cX1_appendFrom 14 = .ok (.aload_n 0, 1) := by decide +kernel
theorem dX1_appendFrom_15 : decode cX1_appendFrom 15 = .ok (.dup, 1) := by decide +kernel
theorem dX1_appendFrom_16 : decode cX1_appendFrom 16 = .ok (.getfield 15, 3) := by decide +kernel
theorem dX1_appendFrom_19 : decode cX1_appendFrom 19 = .ok (.iconst 1, 1) := by decide +kernel
theorem dX1_appendFrom_20 : decode cX1_appendFrom 20 = .ok (.iadd, 1) := by decide +kernel
theorem dX1_appendFrom_21 : decode cX1_appendFrom 21 = .ok (.putfield 15, 3) := by decide +kernel
theorem dX1_appendFrom_24 : decode cX1_appendFrom 24 = .ok (.iconst 0, 1) := by decide +kernel
theorem dX1_appendFrom_25 : decode cX1_appendFrom 25 = .ok (.istore 4, 2) := by decide +kernel
theorem dX1_appendFrom_27 : decode cX1_appendFrom 27 = .ok (.iload 4, 2) := by decide +kernel
theorem dX1_appendFrom_29 : decode cX1_appendFrom 29 = .ok (.iconst 5, 1) := by decide +kernel
theorem dX1_appendFrom_30 : decode cX1_appendFrom 30 = .ok (.if_icmp .ge 23, 3) := by decide +kernel
theorem dX1_appendFrom_33 : decode cX1_appendFrom 33 = .ok (.aload_n 0, 1) := by decide +kernel
theorem dX1_appendFrom_34 : decode cX1_appendFrom 34 = .ok (.iload_n 3, 1) := by decide +kernel
theorem dX1_appendFrom_35 : decode cX1_appendFrom 35 = .ok (.iload 4, 2) := by decide +kernel
theorem dX1_appendFrom_37 : decode cX1_appendFrom 37 = .ok (.aload_n 1, 1) := by decide +kernel
theorem dX1_appendFrom_38 : decode cX1_appendFrom 38 = .ok (.iload_n 2, 1) := by decide +kernel
theorem dX1_appendFrom_39 : decode cX1_appendFrom 39 = .ok (.iload 4, 2) := by decide +kernel
theorem dX1_appendFrom_41 : decode cX1_appendFrom 41 = .ok (.invokevirtual 37, 3) := by decide +kernel
theorem dX1_appendFrom_44 : decode cX1_appendFrom 44 = .ok (.invokevirtual 33, 3) := by decide +kernel
theorem dX1_appendFrom_47 : decode cX1_appendFrom 47 = .ok (.iinc 4 1, 3) := by decide +kernel
theorem dX1_appendFrom_50 : decode cX1_appendFrom 50 = .ok (.goto (-23), 3) := by decide +kernel
theorem dX1_appendFrom_53 : decode cX1_appendFrom 53 = .ok (.return_, 1) := by decide +kernel
set_option maxRecDepth 20000 in
theorem ggX1_ofThread_X1_number : GoodIn wsX1_ofThread wsX1_number := goodIn_r _ [6, 7, 8, 9, 10, 5, 11, 1, 12, 13] (by decide +kernel) (by decide +kernel)
set_option maxRecDepth 20000 in
theorem gX1_ofThread_X1_number : GoodIn wsX1_ofThread (wsV RX1 37 RX1 yX1_number wsX1_number) := goodIn_app (goodIn_of _ (by decide +kernel)) ggX1_ofThread_X1_number
theorem dX1_ofThread_0 : decode cX1_ofThread 0 = .ok (.iconst 0, 1) := by decide +kernel
theorem dX1_ofThread_1 : decode cX1_ofThread 1 = .ok (.istore_n 2, 1) := by decide +kernel
theorem dX1_ofThread_2 : decode cX1_ofThread 2 = .ok (.iconst 0, 1) := by decide +kernel
theorem dX1_ofThread_3 : decode cX1_ofThread 3 = .ok (.istore_n 3, 1) := by decide +kernel
theorem dX1_ofThread_4 : decode cX1_ofThread 4 = .ok (.iload_n 3, 1) := by decide +kernel
theorem dX1_ofThread_5 : decode cX1_ofThread 5 = .ok (.aload_n 0, 1) := by decide +kernel
theorem dX1_ofThread_6 : decode cX1_ofThread 6 = .ok (.getfield 15, 3) := by decide +kernel
theorem dX1_ofThread_9 : decode cX1_ofThread 9 = .ok (.if_icmp .ge 22, 3) := by decide +kernel
theorem dX1_ofThread_12 : decode cX1_ofThread 12 = .ok (.aload_n 0, 1) := by decide +kernel
theorem dX1_ofThread_13 : decode cX1_ofThread 13 = .ok (.iload_n 3, 1) := by decide +kernel
theorem dX1_ofThread_14 : decode cX1_ofThread 14 = .ok (.iconst 0, 1) := by decide +kernel
theorem dX1_ofThread_15 : decode cX1_ofThread 15 = .ok (.invokevirtual 37, 3) := by decide +kernel
theorem dX1_ofThread_18 : decode cX1_ofThread 18 = .ok (.iload_n 1, 1) := by decide +kernel
theorem dX1_ofThread_19 : decode cX1_ofThread 19 = .ok (.if_icmp .ne 6, 3) := by decide +kernel
theorem dX1_ofThread_22 : decode cX1_ofThread 22 = .ok (.iinc 2 1, 3) := by decide +kernel
theorem dX1_ofThread_25 : decode cX1_ofThread 25 = .ok (.iinc 3 1, 3) := by decide +kernel
theorem dX1_ofThread_28 : decode cX1_ofThread 28 = .ok (.goto (-24), 3) := by decide +kernel
theorem dX1_ofThread_31 : decode cX1_ofThread 31 = .ok (.iload_n 2, 1) := by decide +kernel
theorem dX1_ofThread_32 : decode cX1_ofThread 32 = .ok (.ireturn, 1) := by decide +kernel
set_option maxRecDepth 20000 in
theorem ggX2_init_X4_init : GoodIn wsX2_init wsX4_init := goodIn_r _ [9, 10, 2, 3, 11, 12, 13, 14, 15, 16, 17, 18, 19, 20, 21, 22, 23, 24, 25, 26, 27, 28, 29, 36, 37, 33, 34, 35, 38] (by decide +kernel) (by decide +kernel)
set_option maxRecDepth 20000 in
theorem gX2_init_X4_init_n17 : GoodIn wsX2_init (wsX4_init) := ggX2_init_X4_init
theorem dX2_init_0 : decode cX2_init 0 = .ok (.aload_n 0, 1) := by decide +kernel
theorem dX2_init_1 : decode cX2_init 1 = .ok (.invokespecial 3, 3) := by decide +kernel
theorem dX2_init_4 : decode cX2_init 4 = .ok (.aload_n 0, 1) := by decide +kernel
theorem dX2_init_5 : decode cX2_init 5 = .ok (.iconst 4, 1) := by decide +kernel
theorem dX2_init_6 : decode cX2_init 6 = .ok (.anewarray 9, 3) := by decide +kernel
theorem dX2_init_9 : decode cX2_init 9 = .ok (.putfield 11, 3) := by decide +kernel
theorem dX2_init_12 : decode cX2_init 12 = .ok (.iconst 0, 1) := by decide +kernel
theorem dX2_init_13 : decode cX2_init 13 = .ok (.istore_n 1, 1) := by decide +kernel
theorem dX2_init_14 : decode cX2_init 14 = .ok (.iload_n 1, 1) := by decide +kernel
theorem dX2_init_15 : decode cX2_init 15 = .ok (.aload_n 0, 1) := by decide +kernel
theorem dX2_init_16 : decode cX2_init 16 = .ok (.getfield 11, 3) := by decide +kernel
theorem dX2_init_19 : decode cX2_init 19 = .ok (.arraylength, 1) := by decide +kernel
theorem dX2_init_20 : decode cX2_init 20 = .ok (.if_icmp .ge 22, 3) := by decide +kernel
theorem dX2_init_23 : decode cX2_init 23 = .ok (.aload_n 0, 1) := by decide +kernel
theorem dX2_init_24 : decode cX2_init 24 = .ok (.getfield 11, 3) := by decide +kernel
theorem dX2_init_27 : decode cX2_init 27 = .ok (.iload_n 1, 1) := by decide +kernel
theorem dX2_init_28 : decode cX2_init 28 = .ok (.new 9, 3) := by decide +kernel
theorem dX2_init_31 : decode cX2_init 31 = .ok (.dup, 1) := by decide +kernel
theorem dX2_init_32 : decode cX2_init 32 = .ok (.invokespecial 17, 3) := by decide +kernel
theorem dX2_init_35 : decode cX2_init 35 = .ok (.aastore, 1) := by decide +kernel
theorem dX2_init_36 : decode cX2_init 36 = .ok (.iinc 1 1, 3) := by decide +kernel
theorem dX2_init_39 : decode cX2_init 39 = .ok (.goto (-25), 3) := by decide +kernel
theorem dX2_init_42 : decode cX2_init 42 = .ok (.return_, 1) := by decide +kernel
theorem dX2_size_0 : decode cX2_size 0 = .ok (.aload_n 0, 1) := by decide +kernel
theorem dX2_size_1 : decode cX2_size 1 = .ok (.getfield 18, 3) := by decide +kernel
theorem dX2_size_4 : decode cX2_size 4 = .ok (.ireturn, 1) := by decide +kernel
set_option maxRecDepth 20000 in
theorem ggX2_record_X2_stateAfter : GoodIn wsX2_record wsX2_stateAfter := goodIn_r _ [7, 2, 8, 36, 37, 38] (by decide +kernel) (by decide +kernel)
set_option maxRecDepth 20000 in
theorem gX2_record_X2_stateAfter : GoodIn wsX2_record (wsV RX2 22 RX2 yX2_stateAfter wsX2_stateAfter) := goodIn_app (goodIn_of _ (by decide +kernel)) ggX2_record_X2_stateAfter
set_option maxRecDepth 20000 in
theorem ggX2_record_X4_copyFrom : GoodIn wsX2_record wsX4_copyFrom := goodIn_r _ [13, 14, 15, 16, 17, 18, 19, 20, 21, 22, 23, 24, 25, 26, 27, 28, 29, 30, 31, 32, 33, 34, 35, 39, 40, 41, 42, 43, 44] (by decide +kernel) (by decide +kernel)
set_option maxRecDepth 20000 in
theorem gX2_record_X4_copyFrom : GoodIn wsX2_record (wsV RX2 26 RX4 yX4_copyFrom wsX4_copyFrom) := goodIn_app (goodIn_of _ (by decide +kernel)) ggX2_record_X4_copyFrom
theorem dX2_record_0 : decode cX2_record 0 = .ok (.aload_n 0, 1) := by decide +kernel
theorem dX2_record_1 : decode cX2_record 1 = .ok (.aload_n 0, 1) := by decide +kernel
theorem dX2_record_2 : decode cX2_record 2 = .ok (.getfield 18, 3) := by decide +kernel
theorem dX2_record_5 : decode cX2_record 5 = .ok (.invokevirtual 22, 3) := by decide +kernel
theorem dX2_record_8 : decode cX2_record 8 = .ok (.astore_n 2, 1) := by decide +kernel
theorem dX2_record_9 : decode cX2_record 9 = .ok (.aload_n 2, 1) := by decide +kernel
theorem dX2_record_10 : decode cX2_record 10 = .ok (.ifnonnull 4, 3) := by decide +kernel
theorem dX2_record_13 : decode cX2_record 13 = .ok (.return_, 1) := by decide +kernel
theorem dX2_record_14 : decode cX2_record 14 = .ok (.aload_n 2, 1) := by decide +kernel
theorem dX2_record_15 : decode cX2_record 15 = .ok (.aload_n 1, 1) := by decide +kernel
theorem dX2_record_16 : decode cX2_record 16 = .ok (.invokevirtual 26, 3) := by decide +kernel
theorem dX2_record_19 : decode cX2_record 19 = .ok (.aload_n 0, 1) := by decide +kernel
theorem dX2_record_20 : decode cX2_record 20 = .ok (.getfield 18, 3) := by decide +kernel
theorem dX2_record_23 : decode cX2_record 23 = .ok (.iconst 4, 1) := by decide +kernel
theorem dX2_record_24 : decode cX2_record 24 = .ok (.if_icmp .ge 16, 3) := by decide +kernel
theorem dX2_record_27 : decode cX2_record 27 = .ok (.aload_n 0, 1) := by decide +kernel
theorem dX2_record_28 : decode cX2_record 28 = .ok (.dup, 1) := by decide +kernel
theorem dX2_record_29 : decode cX2_record 29 = .ok (.getfield 18, 3) := by decide +kernel
theorem dX2_record_32 : decode cX2_record 32 = .ok (.iconst 1, 1) := by decide +kernel
theorem dX2_record_33 : decode cX2_record 33 = .ok (.iadd, 1) := by decide +kernel
theorem dX2_record_34 : decode cX2_record 34 = .ok (.putfield 18, 3) := by decide +kernel
theorem dX2_record_37 : decode cX2_record 37 = .ok (.goto 15, 3) := by decide +kernel
theorem dX2_record_40 : decode cX2_record 40 = .ok (.aload_n 0, 1) := by decide +kernel
theorem dX2_record_41 : decode cX2_record 41 = .ok (.aload_n 0, 1) := by decide +kernel
theorem dX2_record_42 : decode cX2_record 42 = .ok (.getfield 30, 3) := by decide +kernel
theorem dX2_record_45 : decode cX2_record 45 = .ok (.iconst 1, 1) := by decide +kernel
theorem dX2_record_46 : decode cX2_record 46 = .ok (.iadd, 1) := by decide +kernel
theorem dX2_record_47 : decode cX2_record 47 = .ok (.iconst 4, 1) := by decide +kernel
theorem dX2_record_48 : decode cX2_record 48 = .ok (.irem, 1) := by decide +kernel
theorem dX2_record_49 : decode cX2_record 49 = .ok (.putfield 30, 3) := by decide +kernel
theorem dX2_record_52 : decode cX2_record 52 = .ok (.return_, 1) := by decide +kernel
set_option maxRecDepth 20000 in
theorem ggX2_takeBack_X2_stateAfter : GoodIn wsX2_takeBack wsX2_stateAfter := goodIn_r _ [6, 7, 8, 36, 37, 38] (by decide +kernel) (by decide +kernel)
set_option maxRecDepth 20000 in
theorem gX2_takeBack_X2_stateAfter : GoodIn wsX2_takeBack (wsV RX2 22 RX2 yX2_stateAfter wsX2_stateAfter) := goodIn_app (goodIn_of _ (by decide +kernel)) ggX2_takeBack_X2_stateAfter
set_option maxRecDepth 20000 in
theorem ggX2_takeBack_X4_copyFrom : GoodIn wsX2_takeBack wsX4_copyFrom := goodIn_r _ [13, 14, 15, 16, 17, 18, 19, 20, 21, 22, 23, 24, 25, 26, 27, 28, 29, 30, 31, 32, 33, 34, 35, 39, 40, 41, 42, 43, 44] (by decide +kernel) (by decide +kernel)
set_option maxRecDepth 20000 in
theorem gX2_takeBack_X4_copyFrom : GoodIn wsX2_takeBack (wsV RX2 26 RX4 yX4_copyFrom wsX4_copyFrom) := goodIn_app (goodIn_of _ (by decide +kernel)) ggX2_takeBack_X4_copyFrom
theorem dX2_takeBack_0 : decode cX2_takeBack 0 = .ok (.aload_n 0, 1) := by decide +kernel
theorem dX2_takeBack_1 : decode cX2_takeBack 1 = .ok (.getfield 18, 3) := by decide +kernel
theorem dX2_takeBack_4 : decode cX2_takeBack 4 = .ok (.ifCond .ne 5, 3) := by decide +kernel
theorem dX2_takeBack_7 : decode cX2_takeBack 7 = .ok (.iconst 0, 1) := by decide +kernel
theorem dX2_takeBack_8 : decode cX2_takeBack 8 = .ok (.ireturn, 1) := by decide +kernel
theorem dX2_takeBack_9 : decode cX2_takeBack 9 = .ok (.aload_n 0, 1) := by decide +kernel
theorem dX2_takeBack_10 : decode cX2_takeBack 10 = .ok (.aload_n 0, 1) := by decide +kernel
theorem dX2_takeBack_11 : decode cX2_takeBack 11 = .ok (.getfield 18, 3) := by decide +kernel
theorem dX2_takeBack_14 : decode cX2_takeBack 14 = .ok (.iconst 1, 1) := by decide +kernel
theorem dX2_takeBack_15 : decode cX2_takeBack 15 = .ok (.isub, 1) := by decide +kernel
theorem dX2_takeBack_16 : decode cX2_takeBack 16 = .ok (.invokevirtual 22, 3) := by decide +kernel
theorem dX2_takeBack_19 : decode cX2_takeBack 19 = .ok (.astore_n 2, 1) := by decide +kernel
theorem dX2_takeBack_20 : decode cX2_takeBack 20 = .ok (.aload_n 2, 1) := by decide +kernel
theorem dX2_takeBack_21 : decode cX2_takeBack 21 = .ok (.ifnonnull 5, 3) := by decide +kernel
theorem dX2_takeBack_24 : decode cX2_takeBack 24 = .ok (.iconst 0, 1) := by decide +kernel
theorem dX2_takeBack_25 : decode cX2_takeBack 25 = .ok (.ireturn, 1) := by decide +kernel
theorem dX2_takeBack_26 : decode cX2_takeBack 26 = .ok (.aload_n 1, 1) := by decide +kernel
theorem dX2_takeBack_27 : decode cX2_takeBack 27 = .ok (.aload_n 2, 1) := by decide +kernel
theorem dX2_takeBack_28 : decode cX2_takeBack 28 = .ok (.invokevirtual 26, 3) := by decide +kernel
theorem dX2_takeBack_31 : decode cX2_takeBack 31 = .ok (.aload_n 0, 1) := by decide +kernel
theorem dX2_takeBack_32 : decode cX2_takeBack 32 = .ok (.dup, 1) := by decide +kernel
theorem dX2_takeBack_33 : decode cX2_takeBack 33 = .ok (.getfield 18, 3) := by decide +kernel
theorem dX2_takeBack_36 : decode cX2_takeBack 36 = .ok (.iconst 1, 1) := by decide +kernel
theorem dX2_takeBack_37 : decode cX2_takeBack 37 = .ok (.isub, 1) := by decide +kernel
theorem dX2_takeBack_38 : decode cX2_takeBack 38 = .ok (.putfield 18, 3) := by decide +kernel
theorem dX2_takeBack_41 : decode cX2_takeBack 41 = .ok (.iconst 1, 1) := by decide +kernel
theorem dX2_takeBack_42 : decode cX2_takeBack 42 = .ok (.ireturn, 1) := by decide +kernel
theorem dX2_stateAfter_0 : decode cX2_stateAfter 0 = .ok (.aload_n 0, 1) := by decide +kernel
theorem dX2_stateAfter_1 : decode cX2_stateAfter 1 = .ok (.getfield 30, 3) := by decide +kernel
theorem dX2_stateAfter_4 : decode cX2_stateAfter 4 = .ok (.iload_n 1, 1) := by decide +kernel
theorem dX2_stateAfter_5 : decode cX2_stateAfter 5 = .ok (.iadd, 1) := by decide +kernel
theorem dX2_stateAfter_6 : decode cX2_stateAfter 6 = .ok (.iconst 4, 1) := by decide +kernel
theorem dX2_stateAfter_7 : decode cX2_stateAfter 7 = .ok (.irem, 1) := by decide +kernel
theorem dX2_stateAfter_8 : decode cX2_stateAfter 8 = .ok (.istore_n 2, 1) := by decide +kernel
theorem dX2_stateAfter_9 : decode cX2_stateAfter 9 = .ok (.iload_n 2, 1) := by decide +kernel
theorem dX2_stateAfter_10 : decode cX2_stateAfter 10 = .ok (.ifCond .lt 21, 3) := by decide +kernel
theorem dX2_stateAfter_13 : decode cX2_stateAfter 13 = .ok (.iload_n 2, 1) := by decide +kernel
theorem dX2_stateAfter_14 : decode cX2_stateAfter 14 = .ok (.aload_n 0, 1) := by decide +kernel
theorem dX2_stateAfter_15 : decode cX2_stateAfter 15 = .ok (.getfield 11, 3) := by decide +kernel
theorem dX2_stateAfter_18 : decode cX2_stateAfter 18 = .ok (.arraylength, 1) := by decide +kernel
theorem dX2_stateAfter_19 : decode cX2_stateAfter 19 = .ok (.if_icmp .ge 12, 3) := by decide +kernel
theorem dX2_stateAfter_22 : decode cX2_stateAfter 22 = .ok (.aload_n 0, 1) := by decide +kernel
theorem dX2_stateAfter_23 : decode cX2_stateAfter 23 = .ok (.getfield 11, 3) := by decide +kernel
theorem dX2_stateAfter_26 : decode cX2_stateAfter 26 = .ok (.iload_n 2, 1) := by decide +kernel
theorem dX2_stateAfter_27 : decode cX2_stateAfter 27 = .ok (.aaload, 1) := by decide +kernel
theorem dX2_stateAfter_28 : decode cX2_stateAfter 28 = .ok (.goto 4, 3) := by decide +kernel
theorem dX2_stateAfter_31 : decode cX2_stateAfter 31 = .ok (.aconst_null, 1) := by decide +kernel
theorem dX2_stateAfter_32 : decode cX2_stateAfter 32 = .ok (.areturn, 1) := by decide +kernel
set_option maxRecDepth 20000 in
theorem ggX3_init_X1_init : GoodIn wsX3_init wsX1_init := goodIn_r _ [16, 17, 2, 3, 8, 18, 19, 20] (by decide +kernel) (by decide +kernel)
set_option maxRecDepth 20000 in
theorem gX3_init_X1_init_n11 : GoodIn wsX3_init (wsX1_init) := ggX3_init_X1_init
theorem dX3_init_0 : decode cX3_init 0 = .ok (.aload_n 0, 1) := by decide +kernel
theorem dX3_init_1 : decode cX3_init 1 = .ok (.invokespecial 3, 3) := by decide +kernel
theorem dX3_init_4 : decode cX3_init 4 = .ok (.aload_n 0, 1) := by decide +kernel
theorem dX3_init_5 : decode cX3_init 5 = .ok (.new 9, 3) := by decide +kernel
theorem dX3_init_8 : decode cX3_init 8 = .ok (.dup, 1) := by decide +kernel
theorem dX3_init_9 : decode cX3_init 9 = .ok (.invokespecial 11, 3) := by decide +kernel
theorem dX3_init_12 : decode cX3_init 12 = .ok (.putfield 12, 3) := by decide +kernel
theorem dX3_init_15 : decode cX3_init 15 = .ok (.aload_n 0, 1) := by decide +kernel
theorem dX3_init_16 : decode cX3_init 16 = .ok (.bipush 40, 2) := by decide +kernel
theorem dX3_init_18 : decode cX3_init 18 = .ok (.newarray .int, 2) := by decide +kernel
theorem dX3_init_20 : decode cX3_init 20 = .ok (.putfield 18, 3) := by decide +kernel
theorem dX3_init_23 : decode cX3_init 23 = .ok (.aload_n 0, 1) := by decide +kernel
theorem dX3_init_24 : decode cX3_init 24 = .ok (.bipush 40, 2) := by decide +kernel
theorem dX3_init_26 : decode cX3_init 26 = .ok (.newarray .int, 2) := by decide +kernel
theorem dX3_init_28 : decode cX3_init 28 = .ok (.putfield 22, 3) := by decide +kernel
theorem dX3_init_31 : decode cX3_init 31 = .ok (.aload_n 0, 1) := by decide +kernel
theorem dX3_init_32 : decode cX3_init 32 = .ok (.bipush 40, 2) := by decide +kernel
theorem dX3_init_34 : decode cX3_init 34 = .ok (.newarray .int, 2) := by decide +kernel
theorem dX3_init_36 : decode cX3_init 36 = .ok (.putfield 25, 3) := by decide +kernel
theorem dX3_init_39 : decode cX3_init 39 = .ok (.aload_n 0, 1) := by decide +kernel
theorem dX3_init_40 : decode cX3_init 40 = .ok (.bipush 40, 2) := by decide +kernel
theorem dX3_init_42 : decode cX3_init 42 = .ok (.newarray .int, 2) := by decide +kernel
theorem dX3_init_44 : decode cX3_init 44 = .ok (.putfield 28, 3) := by decide +kernel
theorem dX3_init_47 : decode cX3_init 47 = .ok (.aload_n 0, 1) := by decide +kernel
theorem dX3_init_48 : decode cX3_init 48 = .ok (.bipush 6, 2) := by decide +kernel
theorem dX3_init_50 : decode cX3_init 50 = .ok (.newarray .int, 2) := by decide +kernel
theorem dX3_init_52 : decode cX3_init 52 = .ok (.putfield 31, 3) := by decide +kernel
theorem dX3_init_55 : decode cX3_init 55 = .ok (.aload_n 0, 1) := by decide +kernel
theorem dX3_init_56 : decode cX3_init 56 = .ok (.bipush 6, 2) := by decide +kernel
theorem dX3_init_58 : decode cX3_init 58 = .ok (.newarray .int, 2) := by decide +kernel
theorem dX3_init_60 : decode cX3_init 60 = .ok (.putfield 34, 3) := by decide +kernel
theorem dX3_init_63 : decode cX3_init 63 = .ok (.return_, 1) := by decide +kernel
set_option maxRecDepth 20000 in
theorem ggX3_read_X1_clear : GoodIn wsX3_read wsX1_clear := goodIn_r _ [11, 12, 76, 77] (by decide +kernel) (by decide +kernel)
set_option maxRecDepth 20000 in
theorem gX3_read_X1_clear : GoodIn wsX3_read (wsV RX3 41 RX1 yX1_clear wsX1_clear) := goodIn_app (goodIn_of _ (by decide +kernel)) ggX3_read_X1_clear
set_option maxRecDepth 20000 in
theorem ggX3_read_X4_setting : GoodIn wsX3_read wsX4_setting := goodIn_r _ [17, 18, 73, 74, 75] (by decide +kernel) (by decide +kernel)
set_option maxRecDepth 20000 in
theorem gX3_read_X4_setting : GoodIn wsX3_read (wsV RX3 44 RX4 yX4_setting wsX4_setting) := goodIn_app (goodIn_of _ (by decide +kernel)) ggX3_read_X4_setting
set_option maxRecDepth 20000 in
theorem ggX3_read_X7_cardAt : GoodIn wsX3_read wsX7_cardAt := goodIn_r _ [23, 24, 78] (by decide +kernel) (by decide +kernel)
set_option maxRecDepth 20000 in
theorem gX3_read_X7_cardAt : GoodIn wsX3_read (wsV RX3 56 RX7 yX7_cardAt wsX7_cardAt) := goodIn_app (goodIn_of _ (by decide +kernel)) ggX3_read_X7_cardAt
set_option maxRecDepth 20000 in
theorem ggX3_read_X1_has : GoodIn wsX3_read wsX1_has := goodIn_r _ [28, 12, 76, 77] (by decide +kernel) (by decide +kernel)
set_option maxRecDepth 20000 in
theorem gX3_read_X1_has : GoodIn wsX3_read (wsV RX3 62 RX1 yX1_has wsX1_has) := goodIn_app (goodIn_of _ (by decide +kernel)) ggX3_read_X1_has
set_option maxRecDepth 20000 in
theorem ggX3_read_X3_readCard : GoodIn wsX3_read wsX3_readCard := goodIn_r _ [33, 1, 2, 34, 35, 36, 5, 37, 6, 38, 39, 40, 10, 41, 42, 43, 44, 45, 46, 12, 47, 48, 49, 50, 51, 52, 53, 54, 55, 56, 57, 58, 59, 60, 61, 62, 63, 64, 65, 66, 67, 68, 69, 70, 71, 72, 76, 77] (by decide +kernel) (by decide +kernel)
set_option maxRecDepth 20000 in
theorem gX3_read_X3_readCard : GoodIn wsX3_read (wsV RX3 66 RX3 yX3_readCard wsX3_readCard) := goodIn_app (goodIn_of _ (by decide +kernel)) ggX3_read_X3_readCard
theorem dX3_read_0 : decode cX3_read 0 = .ok (.aload_n 0, 1) := by decide +kernel
theorem dX3_read_1 : decode cX3_read 1 = .ok (.iconst 0, 1) := by decide +kernel
theorem dX3_read_2 : decode cX3_read 2 = .ok (.putfield 37, 3) := by decide +kernel
theorem dX3_read_5 : decode cX3_read 5 = .ok (.aload_n 0, 1) := by decide +kernel
theorem dX3_read_6 : decode cX3_read 6 = .ok (.getfield 12, 3) := by decide +kernel
theorem dX3_read_9 : decode cX3_read 9 = .ok (.invokevirtual 41, 3) := by decide +kernel
theorem dX3_read_12 : decode cX3_read 12 = .ok (.aload_n 0, 1) := by decide +kernel
theorem dX3_read_13 : decode cX3_read 13 = .ok (.aload_n 1, 1) := by decide +kernel
theorem dX3_read_14 : decode cX3_read 14 = .ok (.iconst 0, 1) := by decide +kernel
theorem dX3_read_15 : decode cX3_read 15 = .ok (.invokevirtual 44, 3) := by decide +kernel
theorem dX3_read_18 : decode cX3_read 18 = .ok (.putfield 50, 3) := by decide +kernel
theorem dX3_read_21 : decode cX3_read 21 = .ok (.aload_n 0, 1) := by decide +kernel
theorem dX3_read_22 : decode cX3_read 22 = .ok (.aload_n 1, 1) := by decide +kernel
theorem dX3_read_23 : decode cX3_read 23 = .ok (.iconst 1, 1) := by decide +kernel
theorem dX3_read_24 : decode cX3_read 24 = .ok (.invokevirtual 44, 3) := by decide +kernel
theorem dX3_read_27 : decode cX3_read 27 = .ok (.putfield 53, 3) := by decide +kernel
theorem dX3_read_30 : decode cX3_read 30 = .ok (.iconst 0, 1) := by decide +kernel
theorem dX3_read_31 : decode cX3_read 31 = .ok (.istore_n 3, 1) := by decide +kernel
theorem dX3_read_32 : decode cX3_read 32 = .ok (.iload_n 3, 1) := by decide +kernel
theorem dX3_read_33 : decode cX3_read 33 = .ok (.bipush 6, 2) := by decide +kernel
theorem dX3_read_35 : decode cX3_read 35 = .ok (.if_icmp .ge 25, 3) := by decide +kernel
theorem dX3_read_38 : decode cX3_read 38 = .ok (.aload_n 0, 1) := by decide +kernel
theorem dX3_read_39 : decode cX3_read 39 = .ok (.getfield 31, 3) := by decide +kernel
theorem dX3_read_42 : decode cX3_read 42 = .ok (.iload_n 3, 1) := by decide +kernel
theorem dX3_read_43 : decode cX3_read 43 = .ok (.bipush (-5), 2) := by decide +kernel
theorem dX3_read_45 : decode cX3_read 45 = .ok (.iastore, 1) := by decide +kernel
theorem dX3_read_46 : decode cX3_read 46 = .ok (.aload_n 0, 1) := by decide +kernel
theorem dX3_read_47 : decode cX3_read 47 = .ok (.getfield 34, 3) := by decide +kernel
theorem dX3_read_50 : decode cX3_read 50 = .ok (.iload_n 3, 1) := by decide +kernel
theorem dX3_read_51 : decode cX3_read 51 = .ok (.bipush (-5), 2) := by decide +kernel
theorem dX3_read_53 : decode cX3_read 53 = .ok (.iastore, 1) := by decide +kernel
theorem dX3_read_54 : decode cX3_read 54 = .ok (.iinc 3 1, 3) := by decide +kernel
theorem dX3_read_57 : decode cX3_read 57 = .ok (.goto (-25), 3) := by decide +kernel
theorem dX3_read_60 : decode cX3_read 60 = .ok (.iconst 0, 1) := by decide +kernel
theorem dX3_read_61 : decode cX3_read 61 = .ok (.istore_n 3, 1) := by decide +kernel
theorem dX3_read_62 : decode cX3_read 62 = .ok (.iload_n 3, 1) := by decide +kernel
theorem dX3_read_63 : decode cX3_read 63 = .ok (.bipush 96, 2) := by decide +kernel
theorem dX3_read_65 : decode cX3_read 65 = .ok (.if_icmp .ge 39, 3) := by decide +kernel
theorem dX3_read_68 : decode cX3_read 68 = .ok (.aload_n 2, 1) := by decide +kernel
theorem dX3_read_69 : decode cX3_read 69 = .ok (.iload_n 3, 1) := by decide +kernel
theorem dX3_read_70 : decode cX3_read 70 = .ok (.invokevirtual 56, 3) := by decide +kernel
theorem dX3_read_73 : decode cX3_read 73 = .ok (.istore 4, 2) := by decide +kernel
theorem dX3_read_75 : decode cX3_read 75 = .ok (.aload_n 1, 1) := by decide +kernel
theorem dX3_read_76 : decode cX3_read 76 = .ok (.getfield 61, 3) := by decide +kernel
theorem dX3_read_79 : decode cX3_read 79 = .ok (.iload 4, 2) := by decide +kernel
theorem dX3_read_81 : decode cX3_read 81 = .ok (.invokevirtual 62, 3) := by decide +kernel
theorem dX3_read_84 : decode cX3_read 84 = .ok (.ifCond .eq 14, 3) := by decide +kernel
