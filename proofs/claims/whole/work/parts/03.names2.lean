def wsX11_rangedBy : List Cond := .code yX11_rangedBy cX11_rangedBy 4 (some .int) :: ([.fieldLink RX11 129 "SlipRangesModel" "nodes" "I", .fieldLink RX11 13 "SlipRangesModel" "isTag" "[Z", .fieldLink RX11 47 "SlipRangesModel" "hasRange" "[Z", .methodLink RX11 190 yX11_pairOf, .static yX11_pairOf, .initialized RX11, .code yX11_pairOf cX11_pairOf 2 (some .int)] ++ wsX110)
def wsX11_misfitBy : List Cond := .code yX11_misfitBy cX11_misfitBy 8 (some .int) :: ([.fieldLink RX11 129 "SlipRangesModel" "nodes" "I", .fieldLink RX11 50 "SlipRangesModel" "rangeOf" "[I", .fieldLink RX11 17 "SlipRangesModel" "xOf" "[I", .fieldLink RX11 20 "SlipRangesModel" "yOf" "[I", .methodLink RX11 190 yX11_pairOf, .static yX11_pairOf, .initialized RX11, .code yX11_pairOf cX11_pairOf 2 (some .int), .methodLink RX11 165 yX11_flightBy, .static yX11_flightBy, .code yX11_flightBy cX11_flightBy 2 (some .int), .methodLink RX11 162 yX11_rootOf, .static yX11_rootOf, .code yX11_rootOf cX11_rootOf 2 (some .int)] ++ wsX110)
def wsX11_fitBy : List Cond := .code yX11_fitBy cX11_fitBy 7 (some .int) :: ([.methodLink RX11 246 yX11_misfitBy, .instanceMethod yX11_misfitBy, .selects RX11 yX11_misfitBy yX11_misfitBy, .initialized RX11, .code yX11_misfitBy cX11_misfitBy 8 (some .int), .fieldLink RX11 129 "SlipRangesModel" "nodes" "I", .fieldLink RX11 50 "SlipRangesModel" "rangeOf" "[I", .fieldLink RX11 17 "SlipRangesModel" "xOf" "[I", .fieldLink RX11 20 "SlipRangesModel" "yOf" "[I", .methodLink RX11 190 yX11_pairOf, .static yX11_pairOf, .code yX11_pairOf cX11_pairOf 2 (some .int), .methodLink RX11 165 yX11_flightBy, .static yX11_flightBy, .code yX11_flightBy cX11_flightBy 2 (some .int), .methodLink RX11 162 yX11_rootOf, .static yX11_rootOf, .code yX11_rootOf cX11_rootOf 2 (some .int)] ++ wsX110)
def wsX11_leastBy : List Cond := .code yX11_leastBy cX11_leastBy 4 (some .int) :: ([.methodLink RX11 250 yX11_fitBy, .instanceMethod yX11_fitBy, .selects RX11 yX11_fitBy yX11_fitBy, .initialized RX11, .code yX11_fitBy cX11_fitBy 7 (some .int), .methodLink RX11 246 yX11_misfitBy, .instanceMethod yX11_misfitBy, .selects RX11 yX11_misfitBy yX11_misfitBy, .code yX11_misfitBy cX11_misfitBy 8 (some .int), .fieldLink RX11 129 "SlipRangesModel" "nodes" "I", .fieldLink RX11 50 "SlipRangesModel" "rangeOf" "[I", .fieldLink RX11 17 "SlipRangesModel" "xOf" "[I", .fieldLink RX11 20 "SlipRangesModel" "yOf" "[I", .methodLink RX11 190 yX11_pairOf, .static yX11_pairOf, .code yX11_pairOf cX11_pairOf 2 (some .int), .methodLink RX11 165 yX11_flightBy, .static yX11_flightBy, .code yX11_flightBy cX11_flightBy 2 (some .int), .methodLink RX11 162 yX11_rootOf, .static yX11_rootOf, .code yX11_rootOf cX11_rootOf 2 (some .int)] ++ wsX110)
def wsX11_many : List Cond := .code yX11_many cX11_many 3 (some .int) :: ([])
def wsX11_misfit_r1 : List Cond := [Cond.fieldLink RX11 13 "SlipRangesModel" "isTag" "[Z", Cond.constant RX11 178 (-1000001), Cond.constant RX11 81 (-1000002), Cond.methodLink RX11 159 yX11_isNode, Cond.instanceMethod yX11_isNode, Cond.selects RX11 yX11_isNode yX11_isNode, Cond.initialized RX11, Cond.code yX11_isNode cX11_isNode 2 (some .boolean), Cond.fieldLink RX11 129 "SlipRangesModel" "nodes" "I", Cond.methodLink RX11 77 yX11_within, Cond.static yX11_within, Cond.code yX11_within cX11_within 3 (some .boolean), Cond.methodLink RX11 253 yX11_rangedBy, Cond.instanceMethod yX11_rangedBy, Cond.selects RX11 yX11_rangedBy yX11_rangedBy, Cond.code yX11_rangedBy cX11_rangedBy 4 (some .int), Cond.fieldLink RX11 47 "SlipRangesModel" "hasRange" "[Z", Cond.methodLink RX11 190 yX11_pairOf, Cond.static yX11_pairOf, Cond.code yX11_pairOf cX11_pairOf 2 (some .int), Cond.methodLink RX11 246 yX11_misfitBy, Cond.instanceMethod yX11_misfitBy, Cond.selects RX11 yX11_misfitBy yX11_misfitBy, Cond.code yX11_misfitBy cX11_misfitBy 8 (some .int)]
def wsX11_misfit_r2 : List Cond := [Cond.fieldLink RX11 50 "SlipRangesModel" "rangeOf" "[I", Cond.fieldLink RX11 17 "SlipRangesModel" "xOf" "[I", Cond.fieldLink RX11 20 "SlipRangesModel" "yOf" "[I", Cond.methodLink RX11 165 yX11_flightBy, Cond.static yX11_flightBy, Cond.code yX11_flightBy cX11_flightBy 2 (some .int), Cond.methodLink RX11 162 yX11_rootOf, Cond.static yX11_rootOf, Cond.code yX11_rootOf cX11_rootOf 2 (some .int)]
def wsX11_misfit : List Cond := .code yX11_misfit cX11_misfit 4 (some .int) :: ((wsX11_misfit_r1 ++ wsX11_misfit_r2) ++ wsX110)
def wsX11_worstOf_r1 : List Cond := [Cond.fieldLink RX11 129 "SlipRangesModel" "nodes" "I", Cond.methodLink RX11 256 yX11_leastBy, Cond.instanceMethod yX11_leastBy, Cond.selects RX11 yX11_leastBy yX11_leastBy, Cond.initialized RX11, Cond.code yX11_leastBy cX11_leastBy 4 (some .int), Cond.methodLink RX11 250 yX11_fitBy, Cond.instanceMethod yX11_fitBy, Cond.selects RX11 yX11_fitBy yX11_fitBy, Cond.code yX11_fitBy cX11_fitBy 7 (some .int), Cond.methodLink RX11 246 yX11_misfitBy, Cond.instanceMethod yX11_misfitBy, Cond.selects RX11 yX11_misfitBy yX11_misfitBy, Cond.code yX11_misfitBy cX11_misfitBy 8 (some .int), Cond.fieldLink RX11 50 "SlipRangesModel" "rangeOf" "[I", Cond.fieldLink RX11 17 "SlipRangesModel" "xOf" "[I", Cond.fieldLink RX11 20 "SlipRangesModel" "yOf" "[I", Cond.methodLink RX11 190 yX11_pairOf, Cond.static yX11_pairOf, Cond.code yX11_pairOf cX11_pairOf 2 (some .int), Cond.methodLink RX11 165 yX11_flightBy, Cond.static yX11_flightBy, Cond.code yX11_flightBy cX11_flightBy 2 (some .int), Cond.methodLink RX11 162 yX11_rootOf]
def wsX11_worstOf_r2 : List Cond := [Cond.static yX11_rootOf, Cond.code yX11_rootOf cX11_rootOf 2 (some .int)]
def wsX11_worstOf : List Cond := .code yX11_worstOf cX11_worstOf 8 (some .int) :: ((wsX11_worstOf_r1 ++ wsX11_worstOf_r2) ++ wsX110)
def wsX11_leftOf_r1 : List Cond := [Cond.fieldLink RX11 146 "SlipRangesModel" "limitNow" "I", Cond.methodLink RX11 253 yX11_rangedBy, Cond.instanceMethod yX11_rangedBy, Cond.selects RX11 yX11_rangedBy yX11_rangedBy, Cond.initialized RX11, Cond.code yX11_rangedBy cX11_rangedBy 4 (some .int), Cond.fieldLink RX11 129 "SlipRangesModel" "nodes" "I", Cond.fieldLink RX11 13 "SlipRangesModel" "isTag" "[Z", Cond.fieldLink RX11 47 "SlipRangesModel" "hasRange" "[Z", Cond.methodLink RX11 190 yX11_pairOf, Cond.static yX11_pairOf, Cond.code yX11_pairOf cX11_pairOf 2 (some .int), Cond.methodLink RX11 259 yX11_many, Cond.static yX11_many, Cond.code yX11_many cX11_many 3 (some .int), Cond.methodLink RX11 256 yX11_leastBy, Cond.instanceMethod yX11_leastBy, Cond.selects RX11 yX11_leastBy yX11_leastBy, Cond.code yX11_leastBy cX11_leastBy 4 (some .int), Cond.methodLink RX11 250 yX11_fitBy, Cond.instanceMethod yX11_fitBy, Cond.selects RX11 yX11_fitBy yX11_fitBy, Cond.code yX11_fitBy cX11_fitBy 7 (some .int), Cond.methodLink RX11 246 yX11_misfitBy]
def wsX11_leftOf_r2 : List Cond := [Cond.instanceMethod yX11_misfitBy, Cond.selects RX11 yX11_misfitBy yX11_misfitBy, Cond.code yX11_misfitBy cX11_misfitBy 8 (some .int), Cond.fieldLink RX11 50 "SlipRangesModel" "rangeOf" "[I", Cond.fieldLink RX11 17 "SlipRangesModel" "xOf" "[I", Cond.fieldLink RX11 20 "SlipRangesModel" "yOf" "[I", Cond.methodLink RX11 165 yX11_flightBy, Cond.static yX11_flightBy, Cond.code yX11_flightBy cX11_flightBy 2 (some .int), Cond.methodLink RX11 162 yX11_rootOf, Cond.static yX11_rootOf, Cond.code yX11_rootOf cX11_rootOf 2 (some .int), Cond.methodLink RX11 262 yX11_worstOf, Cond.instanceMethod yX11_worstOf, Cond.selects RX11 yX11_worstOf yX11_worstOf, Cond.code yX11_worstOf cX11_worstOf 8 (some .int)]
def wsX11_leftOf : List Cond := .code yX11_leftOf cX11_leftOf 3 (some .int) :: ((wsX11_leftOf_r1 ++ wsX11_leftOf_r2) ++ wsX110)
def wsX11_isPlaced : List Cond := .code yX11_isPlaced cX11_isPlaced 2 (some .boolean) :: ([.methodLink RX11 253 yX11_rangedBy, .instanceMethod yX11_rangedBy, .selects RX11 yX11_rangedBy yX11_rangedBy, .initialized RX11, .code yX11_rangedBy cX11_rangedBy 4 (some .int), .fieldLink RX11 129 "SlipRangesModel" "nodes" "I", .fieldLink RX11 13 "SlipRangesModel" "isTag" "[Z", .fieldLink RX11 47 "SlipRangesModel" "hasRange" "[Z", .methodLink RX11 190 yX11_pairOf, .static yX11_pairOf, .code yX11_pairOf cX11_pairOf 2 (some .int), .methodLink RX11 259 yX11_many, .static yX11_many, .code yX11_many cX11_many 3 (some .int)] ++ wsX110)
def wsX11_placedNow_r1 : List Cond := [Cond.methodLink RX11 265 yX11_leftOf, Cond.instanceMethod yX11_leftOf, Cond.selects RX11 yX11_leftOf yX11_leftOf, Cond.initialized RX11, Cond.code yX11_leftOf cX11_leftOf 3 (some .int), Cond.fieldLink RX11 146 "SlipRangesModel" "limitNow" "I", Cond.methodLink RX11 253 yX11_rangedBy, Cond.instanceMethod yX11_rangedBy, Cond.selects RX11 yX11_rangedBy yX11_rangedBy, Cond.code yX11_rangedBy cX11_rangedBy 4 (some .int), Cond.fieldLink RX11 129 "SlipRangesModel" "nodes" "I", Cond.fieldLink RX11 13 "SlipRangesModel" "isTag" "[Z", Cond.fieldLink RX11 47 "SlipRangesModel" "hasRange" "[Z", Cond.methodLink RX11 190 yX11_pairOf, Cond.static yX11_pairOf, Cond.code yX11_pairOf cX11_pairOf 2 (some .int), Cond.methodLink RX11 259 yX11_many, Cond.static yX11_many, Cond.code yX11_many cX11_many 3 (some .int), Cond.methodLink RX11 256 yX11_leastBy, Cond.instanceMethod yX11_leastBy, Cond.selects RX11 yX11_leastBy yX11_leastBy, Cond.code yX11_leastBy cX11_leastBy 4 (some .int), Cond.methodLink RX11 250 yX11_fitBy]
def wsX11_placedNow_r2 : List Cond := [Cond.instanceMethod yX11_fitBy, Cond.selects RX11 yX11_fitBy yX11_fitBy, Cond.code yX11_fitBy cX11_fitBy 7 (some .int), Cond.methodLink RX11 246 yX11_misfitBy, Cond.instanceMethod yX11_misfitBy, Cond.selects RX11 yX11_misfitBy yX11_misfitBy, Cond.code yX11_misfitBy cX11_misfitBy 8 (some .int), Cond.fieldLink RX11 50 "SlipRangesModel" "rangeOf" "[I", Cond.fieldLink RX11 17 "SlipRangesModel" "xOf" "[I", Cond.fieldLink RX11 20 "SlipRangesModel" "yOf" "[I", Cond.methodLink RX11 165 yX11_flightBy, Cond.static yX11_flightBy, Cond.code yX11_flightBy cX11_flightBy 2 (some .int), Cond.methodLink RX11 162 yX11_rootOf, Cond.static yX11_rootOf, Cond.code yX11_rootOf cX11_rootOf 2 (some .int), Cond.methodLink RX11 262 yX11_worstOf, Cond.instanceMethod yX11_worstOf, Cond.selects RX11 yX11_worstOf yX11_worstOf, Cond.code yX11_worstOf cX11_worstOf 8 (some .int)]
def wsX11_placedNow : List Cond := .code yX11_placedNow cX11_placedNow 5 (some .int) :: ((wsX11_placedNow_r1 ++ wsX11_placedNow_r2) ++ wsX110)
def wsX11_placed_r1 : List Cond := [Cond.fieldLink RX11 13 "SlipRangesModel" "isTag" "[Z", Cond.constant RX11 178 (-1000001), Cond.constant RX11 81 (-1000002), Cond.constant RX11 152 (-1000003), Cond.methodLink RX11 159 yX11_isNode, Cond.instanceMethod yX11_isNode, Cond.selects RX11 yX11_isNode yX11_isNode, Cond.initialized RX11, Cond.code yX11_isNode cX11_isNode 2 (some .boolean), Cond.fieldLink RX11 129 "SlipRangesModel" "nodes" "I", Cond.methodLink RX11 77 yX11_within, Cond.static yX11_within, Cond.code yX11_within cX11_within 3 (some .boolean), Cond.methodLink RX11 268 yX11_isPlaced, Cond.instanceMethod yX11_isPlaced, Cond.selects RX11 yX11_isPlaced yX11_isPlaced, Cond.code yX11_isPlaced cX11_isPlaced 2 (some .boolean), Cond.methodLink RX11 253 yX11_rangedBy, Cond.instanceMethod yX11_rangedBy, Cond.selects RX11 yX11_rangedBy yX11_rangedBy, Cond.code yX11_rangedBy cX11_rangedBy 4 (some .int), Cond.fieldLink RX11 47 "SlipRangesModel" "hasRange" "[Z", Cond.methodLink RX11 190 yX11_pairOf, Cond.static yX11_pairOf]
def wsX11_placed_r2 : List Cond := [Cond.code yX11_pairOf cX11_pairOf 2 (some .int), Cond.methodLink RX11 259 yX11_many, Cond.static yX11_many, Cond.code yX11_many cX11_many 3 (some .int), Cond.methodLink RX11 271 yX11_placedNow, Cond.instanceMethod yX11_placedNow, Cond.selects RX11 yX11_placedNow yX11_placedNow, Cond.code yX11_placedNow cX11_placedNow 5 (some .int), Cond.methodLink RX11 265 yX11_leftOf, Cond.instanceMethod yX11_leftOf, Cond.selects RX11 yX11_leftOf yX11_leftOf, Cond.code yX11_leftOf cX11_leftOf 3 (some .int), Cond.fieldLink RX11 146 "SlipRangesModel" "limitNow" "I", Cond.methodLink RX11 256 yX11_leastBy, Cond.instanceMethod yX11_leastBy, Cond.selects RX11 yX11_leastBy yX11_leastBy, Cond.code yX11_leastBy cX11_leastBy 4 (some .int), Cond.methodLink RX11 250 yX11_fitBy, Cond.instanceMethod yX11_fitBy, Cond.selects RX11 yX11_fitBy yX11_fitBy, Cond.code yX11_fitBy cX11_fitBy 7 (some .int), Cond.methodLink RX11 246 yX11_misfitBy, Cond.instanceMethod yX11_misfitBy, Cond.selects RX11 yX11_misfitBy yX11_misfitBy]
def wsX11_placed_r3 : List Cond := [Cond.code yX11_misfitBy cX11_misfitBy 8 (some .int), Cond.fieldLink RX11 50 "SlipRangesModel" "rangeOf" "[I", Cond.fieldLink RX11 17 "SlipRangesModel" "xOf" "[I", Cond.fieldLink RX11 20 "SlipRangesModel" "yOf" "[I", Cond.methodLink RX11 165 yX11_flightBy, Cond.static yX11_flightBy, Cond.code yX11_flightBy cX11_flightBy 2 (some .int), Cond.methodLink RX11 162 yX11_rootOf, Cond.static yX11_rootOf, Cond.code yX11_rootOf cX11_rootOf 2 (some .int), Cond.methodLink RX11 262 yX11_worstOf, Cond.instanceMethod yX11_worstOf, Cond.selects RX11 yX11_worstOf yX11_worstOf, Cond.code yX11_worstOf cX11_worstOf 8 (some .int)]
def wsX11_placed : List Cond := .code yX11_placed cX11_placed 3 (some .int) :: ((wsX11_placed_r1 ++ (wsX11_placed_r2 ++ wsX11_placed_r3)) ++ wsX110)
def wsX11_limit : List Cond := .code yX11_limit cX11_limit 3 (some .int) :: ([.constant RX11 152 (-1000003), .constant RX11 81 (-1000002), .fieldLink RX11 146 "SlipRangesModel" "limitNow" "I", .methodLink RX11 196 yX11_isField, .instanceMethod yX11_isField, .selects RX11 yX11_isField yX11_isField, .initialized RX11, .code yX11_isField cX11_isField 1 (some .boolean), .fieldLink RX11 129 "SlipRangesModel" "nodes" "I", .methodLink RX11 77 yX11_within, .static yX11_within, .code yX11_within cX11_within 3 (some .boolean)] ++ wsX110)
def wsX11_want : List Cond := .code yX11_want cX11_want 5 (some .int) :: ([.fieldLink RX11 13 "SlipRangesModel" "isTag" "[Z", .constant RX11 178 (-1000001), .constant RX11 81 (-1000002), .fieldLink RX11 32 "SlipRangesModel" "periodOf" "[I", .methodLink RX11 159 yX11_isNode, .instanceMethod yX11_isNode, .selects RX11 yX11_isNode yX11_isNode, .initialized RX11, .code yX11_isNode cX11_isNode 2 (some .boolean), .fieldLink RX11 129 "SlipRangesModel" "nodes" "I", .methodLink RX11 77 yX11_within, .static yX11_within, .code yX11_within cX11_within 3 (some .boolean)] ++ wsX110)
def wsX11_isFree : List Cond := .code yX11_isFree cX11_isFree 5 (some .boolean) :: ([.fieldLink RX11 53 "SlipRangesModel" "slotOf" "[I"] ++ wsX110)
def wsX11_dealTo : List Cond := .code yX11_dealTo cX11_dealTo 5 (some .boolean) :: ([.fieldLink RX11 32 "SlipRangesModel" "periodOf" "[I", .fieldLink RX11 53 "SlipRangesModel" "slotOf" "[I", .methodLink RX11 274 yX11_isFree, .instanceMethod yX11_isFree, .selects RX11 yX11_isFree yX11_isFree, .initialized RX11, .code yX11_isFree cX11_isFree 5 (some .boolean)] ++ wsX110)
def wsX11_dealNow : List Cond := .code yX11_dealNow cX11_dealNow 4 (some .int) :: ([.fieldLink RX11 53 "SlipRangesModel" "slotOf" "[I", .fieldLink RX11 129 "SlipRangesModel" "nodes" "I", .fieldLink RX11 13 "SlipRangesModel" "isTag" "[Z", .fieldLink RX11 32 "SlipRangesModel" "periodOf" "[I", .methodLink RX11 277 yX11_dealTo, .instanceMethod yX11_dealTo, .selects RX11 yX11_dealTo yX11_dealTo, .initialized RX11, .code yX11_dealTo cX11_dealTo 5 (some .boolean), .methodLink RX11 274 yX11_isFree, .instanceMethod yX11_isFree, .selects RX11 yX11_isFree yX11_isFree, .code yX11_isFree cX11_isFree 5 (some .boolean)] ++ wsX110)
def wsX11_deal : List Cond := .code yX11_deal cX11_deal 1 (some .int) :: ([.constant RX11 152 (-1000003), .methodLink RX11 196 yX11_isField, .instanceMethod yX11_isField, .selects RX11 yX11_isField yX11_isField, .initialized RX11, .code yX11_isField cX11_isField 1 (some .boolean), .fieldLink RX11 129 "SlipRangesModel" "nodes" "I", .methodLink RX11 280 yX11_dealNow, .instanceMethod yX11_dealNow, .selects RX11 yX11_dealNow yX11_dealNow, .code yX11_dealNow cX11_dealNow 4 (some .int), .fieldLink RX11 53 "SlipRangesModel" "slotOf" "[I", .fieldLink RX11 13 "SlipRangesModel" "isTag" "[Z", .fieldLink RX11 32 "SlipRangesModel" "periodOf" "[I", .methodLink RX11 277 yX11_dealTo, .instanceMethod yX11_dealTo, .selects RX11 yX11_dealTo yX11_dealTo, .code yX11_dealTo cX11_dealTo 5 (some .boolean), .methodLink RX11 274 yX11_isFree, .instanceMethod yX11_isFree, .selects RX11 yX11_isFree yX11_isFree, .code yX11_isFree cX11_isFree 5 (some .boolean)] ++ wsX110)
def wsX11_slot : List Cond := .code yX11_slot cX11_slot 2 (some .int) :: ([.constant RX11 152 (-1000003), .fieldLink RX11 53 "SlipRangesModel" "slotOf" "[I", .constant RX11 178 (-1000001), .methodLink RX11 196 yX11_isField, .instanceMethod yX11_isField, .selects RX11 yX11_isField yX11_isField, .initialized RX11, .code yX11_isField cX11_isField 1 (some .boolean), .fieldLink RX11 129 "SlipRangesModel" "nodes" "I", .methodLink RX11 77 yX11_within, .static yX11_within, .code yX11_within cX11_within 3 (some .boolean)] ++ wsX110)
def wsX11_frameNow_r1 : List Cond := [Cond.fieldLink RX11 140 "SlipRangesModel" "time" "I", Cond.fieldLink RX11 53 "SlipRangesModel" "slotOf" "[I", Cond.fieldLink RX11 35 "SlipRangesModel" "nextOf" "[I", Cond.constant RX11 214 (-1000005), Cond.constant RX11 283 (48000), Cond.fieldLink RX11 284 "SlipRangesModel" "framesRun" "I", Cond.methodLink RX11 232 yX11_exchangeNow, Cond.instanceMethod yX11_exchangeNow, Cond.selects RX11 yX11_exchangeNow yX11_exchangeNow, Cond.initialized RX11, Cond.code yX11_exchangeNow cX11_exchangeNow 4 (some .int), Cond.fieldLink RX11 208 "SlipRangesModel" "exchanges" "I", Cond.fieldLink RX11 211 "SlipRangesModel" "lostOnes" "I", Cond.fieldLink RX11 226 "SlipRangesModel" "lastTag" "I", Cond.fieldLink RX11 229 "SlipRangesModel" "lastAnchor" "I", Cond.fieldLink RX11 149 "SlipRangesModel" "wasExchange" "Z", Cond.fieldLink RX11 50 "SlipRangesModel" "rangeOf" "[I", Cond.fieldLink RX11 205 "SlipRangesModel" "lastTwo" "I", Cond.fieldLink RX11 47 "SlipRangesModel" "hasRange" "[Z", Cond.fieldLink RX11 56 "SlipRangesModel" "times" "[I", Cond.methodLink RX11 193 yX11_firstExtra, Cond.instanceMethod yX11_firstExtra, Cond.selects RX11 yX11_firstExtra yX11_firstExtra, Cond.code yX11_firstExtra cX11_firstExtra 8 (some .int)]
def wsX11_frameNow_r2 : List Cond := [Cond.fieldLink RX11 38 "SlipRangesModel" "paths" "[I", Cond.fieldLink RX11 41 "SlipRangesModel" "extras" "[I", Cond.fieldLink RX11 44 "SlipRangesModel" "louds" "[I", Cond.fieldLink RX11 143 "SlipRangesModel" "levelNow" "I", Cond.methodLink RX11 190 yX11_pairOf, Cond.static yX11_pairOf, Cond.code yX11_pairOf cX11_pairOf 2 (some .int), Cond.methodLink RX11 182 yX11_flightOf, Cond.instanceMethod yX11_flightOf, Cond.selects RX11 yX11_flightOf yX11_flightOf, Cond.code yX11_flightOf cX11_flightOf 3 (some .int), Cond.fieldLink RX11 17 "SlipRangesModel" "xOf" "[I", Cond.fieldLink RX11 20 "SlipRangesModel" "yOf" "[I", Cond.methodLink RX11 165 yX11_flightBy, Cond.static yX11_flightBy, Cond.code yX11_flightBy cX11_flightBy 2 (some .int), Cond.methodLink RX11 162 yX11_rootOf, Cond.static yX11_rootOf, Cond.code yX11_rootOf cX11_rootOf 2 (some .int), Cond.methodLink RX11 215 yX11_layTimes, Cond.instanceMethod yX11_layTimes, Cond.selects RX11 yX11_layTimes yX11_layTimes, Cond.code yX11_layTimes cX11_layTimes 4 none, Cond.fieldLink RX11 29 "SlipRangesModel" "delayOf" "[I"]
def wsX11_frameNow_r3 : List Cond := [Cond.methodLink RX11 219 yX11_layStamps, Cond.instanceMethod yX11_layStamps, Cond.selects RX11 yX11_layStamps yX11_layStamps, Cond.code yX11_layStamps cX11_layStamps 5 none, Cond.fieldLink RX11 59 "SlipRangesModel" "stamps" "[I", Cond.methodLink RX11 175 yX11_clockOf, Cond.instanceMethod yX11_clockOf, Cond.selects RX11 yX11_clockOf yX11_clockOf, Cond.code yX11_clockOf cX11_clockOf 3 (some .int), Cond.fieldLink RX11 26 "SlipRangesModel" "startOf" "[I", Cond.fieldLink RX11 23 "SlipRangesModel" "slipOf" "[I", Cond.constantLong RX11 169 (10000), Cond.methodLink RX11 171 yX11_down, Cond.static yX11_down, Cond.code yX11_down cX11_down 6 (some .int), Cond.methodLink RX11 223 yX11_layTold, Cond.instanceMethod yX11_layTold, Cond.selects RX11 yX11_layTold yX11_layTold, Cond.code yX11_layTold cX11_layTold 9 none, Cond.constantLong RX11 200 (2), Cond.fieldLink RX11 202 "SlipRangesModel" "lastOne" "I", Cond.methodLink RX11 136 yX11_anchorFrom, Cond.instanceMethod yX11_anchorFrom, Cond.selects RX11 yX11_anchorFrom yX11_anchorFrom]
def wsX11_frameNow_r4 : List Cond := [Cond.code yX11_anchorFrom cX11_anchorFrom 3 (some .int), Cond.fieldLink RX11 129 "SlipRangesModel" "nodes" "I", Cond.fieldLink RX11 13 "SlipRangesModel" "isTag" "[Z"]
def wsX11_frameNow : List Cond := .code yX11_frameNow cX11_frameNow 5 (some .int) :: ((wsX11_frameNow_r1 ++ (wsX11_frameNow_r2 ++ (wsX11_frameNow_r3 ++ wsX11_frameNow_r4))) ++ wsX110)
def wsX11_frame_r1 : List Cond := [Cond.fieldLink RX11 140 "SlipRangesModel" "time" "I", Cond.constant RX11 283 (48000), Cond.constant RX11 236 (9999999), Cond.constant RX11 152 (-1000003), Cond.methodLink RX11 196 yX11_isField, Cond.instanceMethod yX11_isField, Cond.selects RX11 yX11_isField yX11_isField, Cond.initialized RX11, Cond.code yX11_isField cX11_isField 1 (some .boolean), Cond.fieldLink RX11 129 "SlipRangesModel" "nodes" "I", Cond.methodLink RX11 287 yX11_frameNow, Cond.instanceMethod yX11_frameNow, Cond.selects RX11 yX11_frameNow yX11_frameNow, Cond.code yX11_frameNow cX11_frameNow 5 (some .int), Cond.fieldLink RX11 53 "SlipRangesModel" "slotOf" "[I", Cond.fieldLink RX11 35 "SlipRangesModel" "nextOf" "[I", Cond.constant RX11 214 (-1000005), Cond.fieldLink RX11 284 "SlipRangesModel" "framesRun" "I", Cond.methodLink RX11 232 yX11_exchangeNow, Cond.instanceMethod yX11_exchangeNow, Cond.selects RX11 yX11_exchangeNow yX11_exchangeNow, Cond.code yX11_exchangeNow cX11_exchangeNow 4 (some .int), Cond.fieldLink RX11 208 "SlipRangesModel" "exchanges" "I", Cond.fieldLink RX11 211 "SlipRangesModel" "lostOnes" "I"]
def wsX11_frame_r2 : List Cond := [Cond.fieldLink RX11 226 "SlipRangesModel" "lastTag" "I", Cond.fieldLink RX11 229 "SlipRangesModel" "lastAnchor" "I", Cond.fieldLink RX11 149 "SlipRangesModel" "wasExchange" "Z", Cond.fieldLink RX11 50 "SlipRangesModel" "rangeOf" "[I", Cond.fieldLink RX11 205 "SlipRangesModel" "lastTwo" "I", Cond.fieldLink RX11 47 "SlipRangesModel" "hasRange" "[Z", Cond.fieldLink RX11 56 "SlipRangesModel" "times" "[I", Cond.methodLink RX11 193 yX11_firstExtra, Cond.instanceMethod yX11_firstExtra, Cond.selects RX11 yX11_firstExtra yX11_firstExtra, Cond.code yX11_firstExtra cX11_firstExtra 8 (some .int), Cond.fieldLink RX11 38 "SlipRangesModel" "paths" "[I", Cond.fieldLink RX11 41 "SlipRangesModel" "extras" "[I", Cond.fieldLink RX11 44 "SlipRangesModel" "louds" "[I", Cond.fieldLink RX11 143 "SlipRangesModel" "levelNow" "I", Cond.methodLink RX11 190 yX11_pairOf, Cond.static yX11_pairOf, Cond.code yX11_pairOf cX11_pairOf 2 (some .int), Cond.methodLink RX11 182 yX11_flightOf, Cond.instanceMethod yX11_flightOf, Cond.selects RX11 yX11_flightOf yX11_flightOf, Cond.code yX11_flightOf cX11_flightOf 3 (some .int), Cond.fieldLink RX11 17 "SlipRangesModel" "xOf" "[I", Cond.fieldLink RX11 20 "SlipRangesModel" "yOf" "[I"]
def wsX11_frame_r3 : List Cond := [Cond.methodLink RX11 165 yX11_flightBy, Cond.static yX11_flightBy, Cond.code yX11_flightBy cX11_flightBy 2 (some .int), Cond.methodLink RX11 162 yX11_rootOf, Cond.static yX11_rootOf, Cond.code yX11_rootOf cX11_rootOf 2 (some .int), Cond.methodLink RX11 215 yX11_layTimes, Cond.instanceMethod yX11_layTimes, Cond.selects RX11 yX11_layTimes yX11_layTimes, Cond.code yX11_layTimes cX11_layTimes 4 none, Cond.fieldLink RX11 29 "SlipRangesModel" "delayOf" "[I", Cond.methodLink RX11 219 yX11_layStamps, Cond.instanceMethod yX11_layStamps, Cond.selects RX11 yX11_layStamps yX11_layStamps, Cond.code yX11_layStamps cX11_layStamps 5 none, Cond.fieldLink RX11 59 "SlipRangesModel" "stamps" "[I", Cond.methodLink RX11 175 yX11_clockOf, Cond.instanceMethod yX11_clockOf, Cond.selects RX11 yX11_clockOf yX11_clockOf, Cond.code yX11_clockOf cX11_clockOf 3 (some .int), Cond.fieldLink RX11 26 "SlipRangesModel" "startOf" "[I", Cond.fieldLink RX11 23 "SlipRangesModel" "slipOf" "[I", Cond.constantLong RX11 169 (10000), Cond.methodLink RX11 171 yX11_down]
def wsX11_frame_r4 : List Cond := [Cond.static yX11_down, Cond.code yX11_down cX11_down 6 (some .int), Cond.methodLink RX11 223 yX11_layTold, Cond.instanceMethod yX11_layTold, Cond.selects RX11 yX11_layTold yX11_layTold, Cond.code yX11_layTold cX11_layTold 9 none, Cond.constantLong RX11 200 (2), Cond.fieldLink RX11 202 "SlipRangesModel" "lastOne" "I", Cond.methodLink RX11 136 yX11_anchorFrom, Cond.instanceMethod yX11_anchorFrom, Cond.selects RX11 yX11_anchorFrom yX11_anchorFrom, Cond.code yX11_anchorFrom cX11_anchorFrom 3 (some .int), Cond.fieldLink RX11 13 "SlipRangesModel" "isTag" "[Z"]
def wsX11_frame : List Cond := .code yX11_frame cX11_frame 1 (some .int) :: ((wsX11_frame_r1 ++ (wsX11_frame_r2 ++ (wsX11_frame_r3 ++ wsX11_frame_r4))) ++ wsX110)
def wsX11_tagsMany : List Cond := .code yX11_tagsMany cX11_tagsMany 3 (some .int) :: ([.fieldLink RX11 129 "SlipRangesModel" "nodes" "I", .fieldLink RX11 13 "SlipRangesModel" "isTag" "[Z"] ++ wsX110)
def wsX11_dealtMany : List Cond := .code yX11_dealtMany cX11_dealtMany 3 (some .int) :: ([.fieldLink RX11 53 "SlipRangesModel" "slotOf" "[I"] ++ wsX110)
def wsX11_placedMany : List Cond := .code yX11_placedMany cX11_placedMany 3 (some .int) :: ([.fieldLink RX11 129 "SlipRangesModel" "nodes" "I", .fieldLink RX11 13 "SlipRangesModel" "isTag" "[Z", .methodLink RX11 268 yX11_isPlaced, .instanceMethod yX11_isPlaced, .selects RX11 yX11_isPlaced yX11_isPlaced, .initialized RX11, .code yX11_isPlaced cX11_isPlaced 2 (some .boolean), .methodLink RX11 253 yX11_rangedBy, .instanceMethod yX11_rangedBy, .selects RX11 yX11_rangedBy yX11_rangedBy, .code yX11_rangedBy cX11_rangedBy 4 (some .int), .fieldLink RX11 47 "SlipRangesModel" "hasRange" "[Z", .methodLink RX11 190 yX11_pairOf, .static yX11_pairOf, .code yX11_pairOf cX11_pairOf 2 (some .int), .methodLink RX11 259 yX11_many, .static yX11_many, .code yX11_many cX11_many 3 (some .int)] ++ wsX110)
def wsX11_aboutNow_r1 : List Cond := [Cond.fieldLink RX11 129 "SlipRangesModel" "nodes" "I", Cond.fieldLink RX11 140 "SlipRangesModel" "time" "I", Cond.fieldLink RX11 143 "SlipRangesModel" "levelNow" "I", Cond.fieldLink RX11 146 "SlipRangesModel" "limitNow" "I", Cond.methodLink RX11 290 yX11_tagsMany, Cond.instanceMethod yX11_tagsMany, Cond.selects RX11 yX11_tagsMany yX11_tagsMany, Cond.initialized RX11, Cond.code yX11_tagsMany cX11_tagsMany 3 (some .int), Cond.fieldLink RX11 13 "SlipRangesModel" "isTag" "[Z", Cond.methodLink RX11 293 yX11_dealtMany, Cond.instanceMethod yX11_dealtMany, Cond.selects RX11 yX11_dealtMany yX11_dealtMany, Cond.code yX11_dealtMany cX11_dealtMany 3 (some .int), Cond.fieldLink RX11 53 "SlipRangesModel" "slotOf" "[I", Cond.methodLink RX11 296 yX11_placedMany, Cond.instanceMethod yX11_placedMany, Cond.selects RX11 yX11_placedMany yX11_placedMany, Cond.code yX11_placedMany cX11_placedMany 3 (some .int), Cond.methodLink RX11 268 yX11_isPlaced, Cond.instanceMethod yX11_isPlaced, Cond.selects RX11 yX11_isPlaced yX11_isPlaced, Cond.code yX11_isPlaced cX11_isPlaced 2 (some .boolean), Cond.methodLink RX11 253 yX11_rangedBy]
def wsX11_aboutNow_r2 : List Cond := [Cond.instanceMethod yX11_rangedBy, Cond.selects RX11 yX11_rangedBy yX11_rangedBy, Cond.code yX11_rangedBy cX11_rangedBy 4 (some .int), Cond.fieldLink RX11 47 "SlipRangesModel" "hasRange" "[Z", Cond.methodLink RX11 190 yX11_pairOf, Cond.static yX11_pairOf, Cond.code yX11_pairOf cX11_pairOf 2 (some .int), Cond.methodLink RX11 259 yX11_many, Cond.static yX11_many, Cond.code yX11_many cX11_many 3 (some .int)]
def wsX11_aboutNow : List Cond := .code yX11_aboutNow cX11_aboutNow 2 (some .int) :: ((wsX11_aboutNow_r1 ++ wsX11_aboutNow_r2) ++ wsX110)
def wsX11_about_r1 : List Cond := [Cond.constant RX11 152 (-1000003), Cond.constant RX11 81 (-1000002), Cond.methodLink RX11 196 yX11_isField, Cond.instanceMethod yX11_isField, Cond.selects RX11 yX11_isField yX11_isField, Cond.initialized RX11, Cond.code yX11_isField cX11_isField 1 (some .boolean), Cond.fieldLink RX11 129 "SlipRangesModel" "nodes" "I", Cond.methodLink RX11 77 yX11_within, Cond.static yX11_within, Cond.code yX11_within cX11_within 3 (some .boolean), Cond.methodLink RX11 299 yX11_aboutNow, Cond.instanceMethod yX11_aboutNow, Cond.selects RX11 yX11_aboutNow yX11_aboutNow, Cond.code yX11_aboutNow cX11_aboutNow 2 (some .int), Cond.fieldLink RX11 140 "SlipRangesModel" "time" "I", Cond.fieldLink RX11 143 "SlipRangesModel" "levelNow" "I", Cond.fieldLink RX11 146 "SlipRangesModel" "limitNow" "I", Cond.methodLink RX11 290 yX11_tagsMany, Cond.instanceMethod yX11_tagsMany, Cond.selects RX11 yX11_tagsMany yX11_tagsMany, Cond.code yX11_tagsMany cX11_tagsMany 3 (some .int), Cond.fieldLink RX11 13 "SlipRangesModel" "isTag" "[Z", Cond.methodLink RX11 293 yX11_dealtMany]
def wsX11_about_r2 : List Cond := [Cond.instanceMethod yX11_dealtMany, Cond.selects RX11 yX11_dealtMany yX11_dealtMany, Cond.code yX11_dealtMany cX11_dealtMany 3 (some .int), Cond.fieldLink RX11 53 "SlipRangesModel" "slotOf" "[I", Cond.methodLink RX11 296 yX11_placedMany, Cond.instanceMethod yX11_placedMany, Cond.selects RX11 yX11_placedMany yX11_placedMany, Cond.code yX11_placedMany cX11_placedMany 3 (some .int), Cond.methodLink RX11 268 yX11_isPlaced, Cond.instanceMethod yX11_isPlaced, Cond.selects RX11 yX11_isPlaced yX11_isPlaced, Cond.code yX11_isPlaced cX11_isPlaced 2 (some .boolean), Cond.methodLink RX11 253 yX11_rangedBy, Cond.instanceMethod yX11_rangedBy, Cond.selects RX11 yX11_rangedBy yX11_rangedBy, Cond.code yX11_rangedBy cX11_rangedBy 4 (some .int), Cond.fieldLink RX11 47 "SlipRangesModel" "hasRange" "[Z", Cond.methodLink RX11 190 yX11_pairOf, Cond.static yX11_pairOf, Cond.code yX11_pairOf cX11_pairOf 2 (some .int), Cond.methodLink RX11 259 yX11_many, Cond.static yX11_many, Cond.code yX11_many cX11_many 3 (some .int)]
def wsX11_about : List Cond := .code yX11_about cX11_about 2 (some .int) :: ((wsX11_about_r1 ++ wsX11_about_r2) ++ wsX110)
def wsX11_howMany : List Cond := .code yX11_howMany cX11_howMany 2 (some .int) :: ([.fieldLink RX11 82 "SlipRangesModel" "pageLength" "I", .fieldLink RX11 208 "SlipRangesModel" "exchanges" "I", .fieldLink RX11 211 "SlipRangesModel" "lostOnes" "I", .fieldLink RX11 156 "SlipRangesModel" "fields" "I", .fieldLink RX11 284 "SlipRangesModel" "framesRun" "I", .constant RX11 81 (-1000002)] ++ wsX110)
def wsX11_count : List Cond := .code yX11_count cX11_count 2 (some .int) :: ([.methodLink RX11 302 yX11_howMany, .instanceMethod yX11_howMany, .selects RX11 yX11_howMany yX11_howMany, .initialized RX11, .code yX11_howMany cX11_howMany 2 (some .int), .fieldLink RX11 82 "SlipRangesModel" "pageLength" "I", .fieldLink RX11 208 "SlipRangesModel" "exchanges" "I", .fieldLink RX11 211 "SlipRangesModel" "lostOnes" "I", .fieldLink RX11 156 "SlipRangesModel" "fields" "I", .fieldLink RX11 284 "SlipRangesModel" "framesRun" "I", .constant RX11 81 (-1000002)] ++ wsX110)
def wsX11_mix : List Cond := .code yX11_mix cX11_mix 3 none :: ([.constantLong RX11 305 (31), .fieldLink RX11 307 "SlipRangesModel" "h" "J"] ++ wsX110)
def wsX11_mixPairs_r1 : List Cond := [Cond.fieldLink RX11 129 "SlipRangesModel" "nodes" "I", Cond.fieldLink RX11 149 "SlipRangesModel" "wasExchange" "Z", Cond.fieldLink RX11 226 "SlipRangesModel" "lastTag" "I", Cond.fieldLink RX11 229 "SlipRangesModel" "lastAnchor" "I", Cond.methodLink RX11 186 yX11_isPair, Cond.instanceMethod yX11_isPair, Cond.selects RX11 yX11_isPair yX11_isPair, Cond.initialized RX11, Cond.code yX11_isPair cX11_isPair 3 (some .boolean), Cond.fieldLink RX11 13 "SlipRangesModel" "isTag" "[Z", Cond.methodLink RX11 159 yX11_isNode, Cond.instanceMethod yX11_isNode, Cond.selects RX11 yX11_isNode yX11_isNode, Cond.code yX11_isNode cX11_isNode 2 (some .boolean), Cond.methodLink RX11 77 yX11_within, Cond.static yX11_within, Cond.code yX11_within cX11_within 3 (some .boolean), Cond.methodLink RX11 182 yX11_flightOf, Cond.instanceMethod yX11_flightOf, Cond.selects RX11 yX11_flightOf yX11_flightOf, Cond.code yX11_flightOf cX11_flightOf 3 (some .int), Cond.fieldLink RX11 17 "SlipRangesModel" "xOf" "[I", Cond.fieldLink RX11 20 "SlipRangesModel" "yOf" "[I", Cond.methodLink RX11 165 yX11_flightBy]
def wsX11_mixPairs_r2 : List Cond := [Cond.static yX11_flightBy, Cond.code yX11_flightBy cX11_flightBy 2 (some .int), Cond.methodLink RX11 162 yX11_rootOf, Cond.static yX11_rootOf, Cond.code yX11_rootOf cX11_rootOf 2 (some .int), Cond.methodLink RX11 311 yX11_mix, Cond.instanceMethod yX11_mix, Cond.selects RX11 yX11_mix yX11_mix, Cond.code yX11_mix cX11_mix 3 none, Cond.constantLong RX11 305 (31), Cond.fieldLink RX11 307 "SlipRangesModel" "h" "J", Cond.methodLink RX11 193 yX11_firstExtra, Cond.instanceMethod yX11_firstExtra, Cond.selects RX11 yX11_firstExtra yX11_firstExtra, Cond.code yX11_firstExtra cX11_firstExtra 8 (some .int), Cond.fieldLink RX11 38 "SlipRangesModel" "paths" "[I", Cond.fieldLink RX11 41 "SlipRangesModel" "extras" "[I", Cond.fieldLink RX11 44 "SlipRangesModel" "louds" "[I", Cond.fieldLink RX11 143 "SlipRangesModel" "levelNow" "I", Cond.methodLink RX11 190 yX11_pairOf, Cond.static yX11_pairOf, Cond.code yX11_pairOf cX11_pairOf 2 (some .int), Cond.methodLink RX11 243 yX11_rangeNow, Cond.instanceMethod yX11_rangeNow]
def wsX11_mixPairs_r3 : List Cond := [Cond.selects RX11 yX11_rangeNow yX11_rangeNow, Cond.code yX11_rangeNow cX11_rangeNow 3 (some .int), Cond.fieldLink RX11 47 "SlipRangesModel" "hasRange" "[Z", Cond.fieldLink RX11 50 "SlipRangesModel" "rangeOf" "[I", Cond.methodLink RX11 237 yX11_lastNow, Cond.instanceMethod yX11_lastNow, Cond.selects RX11 yX11_lastNow yX11_lastNow, Cond.code yX11_lastNow cX11_lastNow 2 (some .int), Cond.fieldLink RX11 202 "SlipRangesModel" "lastOne" "I", Cond.fieldLink RX11 205 "SlipRangesModel" "lastTwo" "I", Cond.fieldLink RX11 59 "SlipRangesModel" "stamps" "[I", Cond.methodLink RX11 240 yX11_heardNow, Cond.instanceMethod yX11_heardNow, Cond.selects RX11 yX11_heardNow yX11_heardNow, Cond.code yX11_heardNow cX11_heardNow 4 (some .int), Cond.fieldLink RX11 56 "SlipRangesModel" "times" "[I", Cond.methodLink RX11 175 yX11_clockOf, Cond.instanceMethod yX11_clockOf, Cond.selects RX11 yX11_clockOf yX11_clockOf, Cond.code yX11_clockOf cX11_clockOf 3 (some .int), Cond.fieldLink RX11 26 "SlipRangesModel" "startOf" "[I", Cond.fieldLink RX11 23 "SlipRangesModel" "slipOf" "[I", Cond.constantLong RX11 169 (10000), Cond.methodLink RX11 171 yX11_down]
def wsX11_mixPairs_r4 : List Cond := [Cond.static yX11_down, Cond.code yX11_down cX11_down 6 (some .int)]
def wsX11_mixPairs : List Cond := .code yX11_mixPairs cX11_mixPairs 3 none :: ((wsX11_mixPairs_r1 ++ (wsX11_mixPairs_r2 ++ (wsX11_mixPairs_r3 ++ wsX11_mixPairs_r4))) ++ wsX110)
def wsX11_mixField_r1 : List Cond := [Cond.fieldLink RX11 129 "SlipRangesModel" "nodes" "I", Cond.fieldLink RX11 13 "SlipRangesModel" "isTag" "[Z", Cond.fieldLink RX11 53 "SlipRangesModel" "slotOf" "[I", Cond.methodLink RX11 299 yX11_aboutNow, Cond.instanceMethod yX11_aboutNow, Cond.selects RX11 yX11_aboutNow yX11_aboutNow, Cond.initialized RX11, Cond.code yX11_aboutNow cX11_aboutNow 2 (some .int), Cond.fieldLink RX11 140 "SlipRangesModel" "time" "I", Cond.fieldLink RX11 143 "SlipRangesModel" "levelNow" "I", Cond.fieldLink RX11 146 "SlipRangesModel" "limitNow" "I", Cond.methodLink RX11 290 yX11_tagsMany, Cond.instanceMethod yX11_tagsMany, Cond.selects RX11 yX11_tagsMany yX11_tagsMany, Cond.code yX11_tagsMany cX11_tagsMany 3 (some .int), Cond.methodLink RX11 293 yX11_dealtMany, Cond.instanceMethod yX11_dealtMany, Cond.selects RX11 yX11_dealtMany yX11_dealtMany, Cond.code yX11_dealtMany cX11_dealtMany 3 (some .int), Cond.methodLink RX11 296 yX11_placedMany, Cond.instanceMethod yX11_placedMany, Cond.selects RX11 yX11_placedMany yX11_placedMany, Cond.code yX11_placedMany cX11_placedMany 3 (some .int), Cond.methodLink RX11 268 yX11_isPlaced]
def wsX11_mixField_r2 : List Cond := [Cond.instanceMethod yX11_isPlaced, Cond.selects RX11 yX11_isPlaced yX11_isPlaced, Cond.code yX11_isPlaced cX11_isPlaced 2 (some .boolean), Cond.methodLink RX11 253 yX11_rangedBy, Cond.instanceMethod yX11_rangedBy, Cond.selects RX11 yX11_rangedBy yX11_rangedBy, Cond.code yX11_rangedBy cX11_rangedBy 4 (some .int), Cond.fieldLink RX11 47 "SlipRangesModel" "hasRange" "[Z", Cond.methodLink RX11 190 yX11_pairOf, Cond.static yX11_pairOf, Cond.code yX11_pairOf cX11_pairOf 2 (some .int), Cond.methodLink RX11 259 yX11_many, Cond.static yX11_many, Cond.code yX11_many cX11_many 3 (some .int), Cond.methodLink RX11 311 yX11_mix, Cond.instanceMethod yX11_mix, Cond.selects RX11 yX11_mix yX11_mix, Cond.code yX11_mix cX11_mix 3 none, Cond.constantLong RX11 305 (31), Cond.fieldLink RX11 307 "SlipRangesModel" "h" "J", Cond.methodLink RX11 179 yX11_nodeNow, Cond.instanceMethod yX11_nodeNow, Cond.selects RX11 yX11_nodeNow yX11_nodeNow, Cond.code yX11_nodeNow cX11_nodeNow 3 (some .int)]
def wsX11_mixField_r3 : List Cond := [Cond.fieldLink RX11 17 "SlipRangesModel" "xOf" "[I", Cond.fieldLink RX11 20 "SlipRangesModel" "yOf" "[I", Cond.fieldLink RX11 23 "SlipRangesModel" "slipOf" "[I", Cond.fieldLink RX11 26 "SlipRangesModel" "startOf" "[I", Cond.fieldLink RX11 29 "SlipRangesModel" "delayOf" "[I", Cond.fieldLink RX11 32 "SlipRangesModel" "periodOf" "[I", Cond.fieldLink RX11 35 "SlipRangesModel" "nextOf" "[I", Cond.methodLink RX11 175 yX11_clockOf, Cond.instanceMethod yX11_clockOf, Cond.selects RX11 yX11_clockOf yX11_clockOf, Cond.code yX11_clockOf cX11_clockOf 3 (some .int), Cond.constantLong RX11 169 (10000), Cond.methodLink RX11 171 yX11_down, Cond.static yX11_down, Cond.code yX11_down cX11_down 6 (some .int), Cond.methodLink RX11 315 yX11_mixPairs, Cond.instanceMethod yX11_mixPairs, Cond.selects RX11 yX11_mixPairs yX11_mixPairs, Cond.code yX11_mixPairs cX11_mixPairs 3 none, Cond.fieldLink RX11 149 "SlipRangesModel" "wasExchange" "Z", Cond.fieldLink RX11 226 "SlipRangesModel" "lastTag" "I", Cond.fieldLink RX11 229 "SlipRangesModel" "lastAnchor" "I", Cond.methodLink RX11 186 yX11_isPair, Cond.instanceMethod yX11_isPair]
def wsX11_mixField_r4 : List Cond := [Cond.selects RX11 yX11_isPair yX11_isPair, Cond.code yX11_isPair cX11_isPair 3 (some .boolean), Cond.methodLink RX11 159 yX11_isNode, Cond.instanceMethod yX11_isNode, Cond.selects RX11 yX11_isNode yX11_isNode, Cond.code yX11_isNode cX11_isNode 2 (some .boolean), Cond.methodLink RX11 77 yX11_within, Cond.static yX11_within, Cond.code yX11_within cX11_within 3 (some .boolean), Cond.methodLink RX11 182 yX11_flightOf, Cond.instanceMethod yX11_flightOf, Cond.selects RX11 yX11_flightOf yX11_flightOf, Cond.code yX11_flightOf cX11_flightOf 3 (some .int), Cond.methodLink RX11 165 yX11_flightBy, Cond.static yX11_flightBy, Cond.code yX11_flightBy cX11_flightBy 2 (some .int), Cond.methodLink RX11 162 yX11_rootOf, Cond.static yX11_rootOf, Cond.code yX11_rootOf cX11_rootOf 2 (some .int), Cond.methodLink RX11 193 yX11_firstExtra, Cond.instanceMethod yX11_firstExtra, Cond.selects RX11 yX11_firstExtra yX11_firstExtra, Cond.code yX11_firstExtra cX11_firstExtra 8 (some .int), Cond.fieldLink RX11 38 "SlipRangesModel" "paths" "[I"]
def wsX11_mixField_r5 : List Cond := [Cond.fieldLink RX11 41 "SlipRangesModel" "extras" "[I", Cond.fieldLink RX11 44 "SlipRangesModel" "louds" "[I", Cond.methodLink RX11 243 yX11_rangeNow, Cond.instanceMethod yX11_rangeNow, Cond.selects RX11 yX11_rangeNow yX11_rangeNow, Cond.code yX11_rangeNow cX11_rangeNow 3 (some .int), Cond.fieldLink RX11 50 "SlipRangesModel" "rangeOf" "[I", Cond.methodLink RX11 237 yX11_lastNow, Cond.instanceMethod yX11_lastNow, Cond.selects RX11 yX11_lastNow yX11_lastNow, Cond.code yX11_lastNow cX11_lastNow 2 (some .int), Cond.fieldLink RX11 202 "SlipRangesModel" "lastOne" "I", Cond.fieldLink RX11 205 "SlipRangesModel" "lastTwo" "I", Cond.fieldLink RX11 59 "SlipRangesModel" "stamps" "[I", Cond.methodLink RX11 240 yX11_heardNow, Cond.instanceMethod yX11_heardNow, Cond.selects RX11 yX11_heardNow yX11_heardNow, Cond.code yX11_heardNow cX11_heardNow 4 (some .int), Cond.fieldLink RX11 56 "SlipRangesModel" "times" "[I", Cond.methodLink RX11 271 yX11_placedNow, Cond.instanceMethod yX11_placedNow, Cond.selects RX11 yX11_placedNow yX11_placedNow, Cond.code yX11_placedNow cX11_placedNow 5 (some .int), Cond.methodLink RX11 265 yX11_leftOf]
def wsX11_mixField_r6 : List Cond := [Cond.instanceMethod yX11_leftOf, Cond.selects RX11 yX11_leftOf yX11_leftOf, Cond.code yX11_leftOf cX11_leftOf 3 (some .int), Cond.methodLink RX11 256 yX11_leastBy, Cond.instanceMethod yX11_leastBy, Cond.selects RX11 yX11_leastBy yX11_leastBy, Cond.code yX11_leastBy cX11_leastBy 4 (some .int), Cond.methodLink RX11 250 yX11_fitBy, Cond.instanceMethod yX11_fitBy, Cond.selects RX11 yX11_fitBy yX11_fitBy, Cond.code yX11_fitBy cX11_fitBy 7 (some .int), Cond.methodLink RX11 246 yX11_misfitBy, Cond.instanceMethod yX11_misfitBy, Cond.selects RX11 yX11_misfitBy yX11_misfitBy, Cond.code yX11_misfitBy cX11_misfitBy 8 (some .int), Cond.methodLink RX11 262 yX11_worstOf, Cond.instanceMethod yX11_worstOf, Cond.selects RX11 yX11_worstOf yX11_worstOf, Cond.code yX11_worstOf cX11_worstOf 8 (some .int)]
def wsX11_mixField : List Cond := .code yX11_mixField cX11_mixField 3 none :: ((wsX11_mixField_r1 ++ (wsX11_mixField_r2 ++ (wsX11_mixField_r3 ++ (wsX11_mixField_r4 ++ (wsX11_mixField_r5 ++ wsX11_mixField_r6))))) ++ wsX110)
def wsX11_digest_r1 : List Cond := [Cond.constantLong RX11 318 (1601), Cond.fieldLink RX11 307 "SlipRangesModel" "h" "J", Cond.fieldLink RX11 82 "SlipRangesModel" "pageLength" "I", Cond.fieldLink RX11 7 "SlipRangesModel" "page" "[I", Cond.methodLink RX11 196 yX11_isField, Cond.instanceMethod yX11_isField, Cond.selects RX11 yX11_isField yX11_isField, Cond.initialized RX11, Cond.code yX11_isField cX11_isField 1 (some .boolean), Cond.fieldLink RX11 129 "SlipRangesModel" "nodes" "I", Cond.methodLink RX11 320 yX11_mixField, Cond.instanceMethod yX11_mixField, Cond.selects RX11 yX11_mixField yX11_mixField, Cond.code yX11_mixField cX11_mixField 3 none, Cond.fieldLink RX11 13 "SlipRangesModel" "isTag" "[Z", Cond.fieldLink RX11 53 "SlipRangesModel" "slotOf" "[I", Cond.methodLink RX11 299 yX11_aboutNow, Cond.instanceMethod yX11_aboutNow, Cond.selects RX11 yX11_aboutNow yX11_aboutNow, Cond.code yX11_aboutNow cX11_aboutNow 2 (some .int), Cond.fieldLink RX11 140 "SlipRangesModel" "time" "I", Cond.fieldLink RX11 143 "SlipRangesModel" "levelNow" "I", Cond.fieldLink RX11 146 "SlipRangesModel" "limitNow" "I", Cond.methodLink RX11 290 yX11_tagsMany]
def wsX11_digest_r2 : List Cond := [Cond.instanceMethod yX11_tagsMany, Cond.selects RX11 yX11_tagsMany yX11_tagsMany, Cond.code yX11_tagsMany cX11_tagsMany 3 (some .int), Cond.methodLink RX11 293 yX11_dealtMany, Cond.instanceMethod yX11_dealtMany, Cond.selects RX11 yX11_dealtMany yX11_dealtMany, Cond.code yX11_dealtMany cX11_dealtMany 3 (some .int), Cond.methodLink RX11 296 yX11_placedMany, Cond.instanceMethod yX11_placedMany, Cond.selects RX11 yX11_placedMany yX11_placedMany, Cond.code yX11_placedMany cX11_placedMany 3 (some .int), Cond.methodLink RX11 268 yX11_isPlaced, Cond.instanceMethod yX11_isPlaced, Cond.selects RX11 yX11_isPlaced yX11_isPlaced, Cond.code yX11_isPlaced cX11_isPlaced 2 (some .boolean), Cond.methodLink RX11 253 yX11_rangedBy, Cond.instanceMethod yX11_rangedBy, Cond.selects RX11 yX11_rangedBy yX11_rangedBy, Cond.code yX11_rangedBy cX11_rangedBy 4 (some .int), Cond.fieldLink RX11 47 "SlipRangesModel" "hasRange" "[Z", Cond.methodLink RX11 190 yX11_pairOf, Cond.static yX11_pairOf, Cond.code yX11_pairOf cX11_pairOf 2 (some .int), Cond.methodLink RX11 259 yX11_many]
def wsX11_digest_r3 : List Cond := [Cond.static yX11_many, Cond.code yX11_many cX11_many 3 (some .int), Cond.methodLink RX11 311 yX11_mix, Cond.instanceMethod yX11_mix, Cond.selects RX11 yX11_mix yX11_mix, Cond.code yX11_mix cX11_mix 3 none, Cond.constantLong RX11 305 (31), Cond.methodLink RX11 179 yX11_nodeNow, Cond.instanceMethod yX11_nodeNow, Cond.selects RX11 yX11_nodeNow yX11_nodeNow, Cond.code yX11_nodeNow cX11_nodeNow 3 (some .int), Cond.fieldLink RX11 17 "SlipRangesModel" "xOf" "[I", Cond.fieldLink RX11 20 "SlipRangesModel" "yOf" "[I", Cond.fieldLink RX11 23 "SlipRangesModel" "slipOf" "[I", Cond.fieldLink RX11 26 "SlipRangesModel" "startOf" "[I", Cond.fieldLink RX11 29 "SlipRangesModel" "delayOf" "[I", Cond.fieldLink RX11 32 "SlipRangesModel" "periodOf" "[I", Cond.fieldLink RX11 35 "SlipRangesModel" "nextOf" "[I", Cond.methodLink RX11 175 yX11_clockOf, Cond.instanceMethod yX11_clockOf, Cond.selects RX11 yX11_clockOf yX11_clockOf, Cond.code yX11_clockOf cX11_clockOf 3 (some .int), Cond.constantLong RX11 169 (10000), Cond.methodLink RX11 171 yX11_down]
def wsX11_digest_r4 : List Cond := [Cond.static yX11_down, Cond.code yX11_down cX11_down 6 (some .int), Cond.methodLink RX11 315 yX11_mixPairs, Cond.instanceMethod yX11_mixPairs, Cond.selects RX11 yX11_mixPairs yX11_mixPairs, Cond.code yX11_mixPairs cX11_mixPairs 3 none, Cond.fieldLink RX11 149 "SlipRangesModel" "wasExchange" "Z", Cond.fieldLink RX11 226 "SlipRangesModel" "lastTag" "I", Cond.fieldLink RX11 229 "SlipRangesModel" "lastAnchor" "I", Cond.methodLink RX11 186 yX11_isPair, Cond.instanceMethod yX11_isPair, Cond.selects RX11 yX11_isPair yX11_isPair, Cond.code yX11_isPair cX11_isPair 3 (some .boolean), Cond.methodLink RX11 159 yX11_isNode, Cond.instanceMethod yX11_isNode, Cond.selects RX11 yX11_isNode yX11_isNode, Cond.code yX11_isNode cX11_isNode 2 (some .boolean), Cond.methodLink RX11 77 yX11_within, Cond.static yX11_within, Cond.code yX11_within cX11_within 3 (some .boolean), Cond.methodLink RX11 182 yX11_flightOf, Cond.instanceMethod yX11_flightOf, Cond.selects RX11 yX11_flightOf yX11_flightOf, Cond.code yX11_flightOf cX11_flightOf 3 (some .int)]
def wsX11_digest_r5 : List Cond := [Cond.methodLink RX11 165 yX11_flightBy, Cond.static yX11_flightBy, Cond.code yX11_flightBy cX11_flightBy 2 (some .int), Cond.methodLink RX11 162 yX11_rootOf, Cond.static yX11_rootOf, Cond.code yX11_rootOf cX11_rootOf 2 (some .int), Cond.methodLink RX11 193 yX11_firstExtra, Cond.instanceMethod yX11_firstExtra, Cond.selects RX11 yX11_firstExtra yX11_firstExtra, Cond.code yX11_firstExtra cX11_firstExtra 8 (some .int), Cond.fieldLink RX11 38 "SlipRangesModel" "paths" "[I", Cond.fieldLink RX11 41 "SlipRangesModel" "extras" "[I", Cond.fieldLink RX11 44 "SlipRangesModel" "louds" "[I", Cond.methodLink RX11 243 yX11_rangeNow, Cond.instanceMethod yX11_rangeNow, Cond.selects RX11 yX11_rangeNow yX11_rangeNow, Cond.code yX11_rangeNow cX11_rangeNow 3 (some .int), Cond.fieldLink RX11 50 "SlipRangesModel" "rangeOf" "[I", Cond.methodLink RX11 237 yX11_lastNow, Cond.instanceMethod yX11_lastNow, Cond.selects RX11 yX11_lastNow yX11_lastNow, Cond.code yX11_lastNow cX11_lastNow 2 (some .int), Cond.fieldLink RX11 202 "SlipRangesModel" "lastOne" "I", Cond.fieldLink RX11 205 "SlipRangesModel" "lastTwo" "I"]
def wsX11_digest_r6 : List Cond := [Cond.fieldLink RX11 59 "SlipRangesModel" "stamps" "[I", Cond.methodLink RX11 240 yX11_heardNow, Cond.instanceMethod yX11_heardNow, Cond.selects RX11 yX11_heardNow yX11_heardNow, Cond.code yX11_heardNow cX11_heardNow 4 (some .int), Cond.fieldLink RX11 56 "SlipRangesModel" "times" "[I", Cond.methodLink RX11 271 yX11_placedNow, Cond.instanceMethod yX11_placedNow, Cond.selects RX11 yX11_placedNow yX11_placedNow, Cond.code yX11_placedNow cX11_placedNow 5 (some .int), Cond.methodLink RX11 265 yX11_leftOf, Cond.instanceMethod yX11_leftOf, Cond.selects RX11 yX11_leftOf yX11_leftOf, Cond.code yX11_leftOf cX11_leftOf 3 (some .int), Cond.methodLink RX11 256 yX11_leastBy, Cond.instanceMethod yX11_leastBy, Cond.selects RX11 yX11_leastBy yX11_leastBy, Cond.code yX11_leastBy cX11_leastBy 4 (some .int), Cond.methodLink RX11 250 yX11_fitBy, Cond.instanceMethod yX11_fitBy, Cond.selects RX11 yX11_fitBy yX11_fitBy, Cond.code yX11_fitBy cX11_fitBy 7 (some .int), Cond.methodLink RX11 246 yX11_misfitBy, Cond.instanceMethod yX11_misfitBy]
def wsX11_digest_r7 : List Cond := [Cond.selects RX11 yX11_misfitBy yX11_misfitBy, Cond.code yX11_misfitBy cX11_misfitBy 8 (some .int), Cond.methodLink RX11 262 yX11_worstOf, Cond.instanceMethod yX11_worstOf, Cond.selects RX11 yX11_worstOf yX11_worstOf, Cond.code yX11_worstOf cX11_worstOf 8 (some .int), Cond.methodLink RX11 302 yX11_howMany, Cond.instanceMethod yX11_howMany, Cond.selects RX11 yX11_howMany yX11_howMany, Cond.code yX11_howMany cX11_howMany 2 (some .int), Cond.fieldLink RX11 208 "SlipRangesModel" "exchanges" "I", Cond.fieldLink RX11 211 "SlipRangesModel" "lostOnes" "I", Cond.fieldLink RX11 156 "SlipRangesModel" "fields" "I", Cond.fieldLink RX11 284 "SlipRangesModel" "framesRun" "I", Cond.constant RX11 81 (-1000002)]
def wsX11_digest : List Cond := .code yX11_digest cX11_digest 2 (some .long) :: ((wsX11_digest_r1 ++ (wsX11_digest_r2 ++ (wsX11_digest_r3 ++ (wsX11_digest_r4 ++ (wsX11_digest_r5 ++ (wsX11_digest_r6 ++ wsX11_digest_r7)))))) ++ wsX110)
def wsJ9_max_7cf53 : List Cond := .code yJ9_max_7cf53 cJ9_max_7cf53 2 (some .int) :: ([])
def wsJ9_max_f86c9 : List Cond := .code yJ9_max_f86c9 cJ9_max_f86c9 4 (some .long) :: ([])
set_option maxRecDepth 20000 in
theorem ggX0_init_X5_init : GoodIn wsX0_init wsX5_init := goodIn_r _ [33, 34, 2, 3] (by decide +kernel) (by decide +kernel)
set_option maxRecDepth 20000 in
theorem gX0_init_X5_init_n23 : GoodIn wsX0_init (wsX5_init) := ggX0_init_X5_init
set_option maxRecDepth 20000 in
theorem ggX0_init_X7_init : GoodIn wsX0_init wsX7_init := goodIn_r _ [36, 37, 2, 3] (by decide +kernel) (by decide +kernel)
set_option maxRecDepth 20000 in
theorem gX0_init_X7_init_n24 : GoodIn wsX0_init (wsX7_init) := ggX0_init_X7_init
set_option maxRecDepth 20000 in
theorem ggX0_init_X4_init : GoodIn wsX0_init wsX4_init := goodIn_r _ [40, 41, 2, 3, 42, 43, 44, 95, 96, 97, 98, 99] (by decide +kernel) (by decide +kernel)
set_option maxRecDepth 20000 in
theorem gX0_init_X4_init : GoodIn wsX0_init (wsX4_init) := ggX0_init_X4_init
set_option maxRecDepth 20000 in
theorem ggX0_init_X3_init : GoodIn wsX0_init wsX3_init := goodIn_r _ [47, 48, 2, 3, 49, 50, 100, 101, 102, 103, 104, 105, 106, 107, 108] (by decide +kernel) (by decide +kernel)
set_option maxRecDepth 20000 in
theorem gX0_init_X3_init : GoodIn wsX0_init (wsX3_init) := ggX0_init_X3_init
set_option maxRecDepth 20000 in
theorem ggX0_init_X9_init : GoodIn wsX0_init wsX9_init := goodIn_r _ [53, 54, 2, 3, 42, 55, 109] (by decide +kernel) (by decide +kernel)
set_option maxRecDepth 20000 in
theorem gX0_init_X9_init : GoodIn wsX0_init (wsX9_init) := ggX0_init_X9_init
set_option maxRecDepth 20000 in
theorem ggX0_init_X2_init : GoodIn wsX0_init wsX2_init := goodIn_r _ [58, 59, 2, 3, 42, 60, 110] (by decide +kernel) (by decide +kernel)
set_option maxRecDepth 20000 in
theorem gX0_init_X2_init : GoodIn wsX0_init (wsX2_init) := ggX0_init_X2_init
set_option maxRecDepth 20000 in
theorem ggX0_init_X1_init : GoodIn wsX0_init wsX1_init := goodIn_r _ [63, 64, 2, 3, 65, 42, 66, 67, 68, 69, 111, 112, 113, 114, 115, 116] (by decide +kernel) (by decide +kernel)
set_option maxRecDepth 20000 in
theorem gX0_init_X1_init : GoodIn wsX0_init (wsX1_init) := ggX0_init_X1_init
theorem dX0_init_0 : decode cX0_init 0 = .ok (.aload_n 0, 1) := by decide +kernel
theorem dX0_init_1 : decode cX0_init 1 = .ok (.invokespecial 3, 3) := by decide +kernel
theorem dX0_init_4 : decode cX0_init 4 = .ok (.aload_n 0, 1) := by decide +kernel
theorem dX0_init_5 : decode cX0_init 5 = .ok (.bipush 7, 2) := by decide +kernel
theorem dX0_init_7 : decode cX0_init 7 = .ok (.anewarray 9, 3) := by decide +kernel
theorem dX0_init_10 : decode cX0_init 10 = .ok (.putfield 11, 3) := by decide +kernel
theorem dX0_init_13 : decode cX0_init 13 = .ok (.aload_n 0, 1) := by decide +kernel
theorem dX0_init_14 : decode cX0_init 14 = .ok (.bipush 7, 2) := by decide +kernel
theorem dX0_init_16 : decode cX0_init 16 = .ok (.anewarray 17, 3) := by decide +kernel
theorem dX0_init_19 : decode cX0_init 19 = .ok (.putfield 19, 3) := by decide +kernel
theorem dX0_init_22 : decode cX0_init 22 = .ok (.iconst 0, 1) := by decide +kernel
theorem dX0_init_23 : decode cX0_init 23 = .ok (.istore_n 1, 1) := by decide +kernel
theorem dX0_init_24 : decode cX0_init 24 = .ok (.iload_n 1, 1) := by decide +kernel
theorem dX0_init_25 : decode cX0_init 25 = .ok (.bipush 7, 2) := by decide +kernel
theorem dX0_init_27 : decode cX0_init 27 = .ok (.if_icmp .ge 35, 3) := by decide +kernel
theorem dX0_init_30 : decode cX0_init 30 = .ok (.aload_n 0, 1) := by decide +kernel
theorem dX0_init_31 : decode cX0_init 31 = .ok (.getfield 11, 3) := by decide +kernel
theorem dX0_init_34 : decode cX0_init 34 = .ok (.iload_n 1, 1) := by decide +kernel
theorem dX0_init_35 : decode cX0_init 35 = .ok (.new 9, 3) := by decide +kernel
theorem dX0_init_38 : decode cX0_init 38 = .ok (.dup, 1) := by decide +kernel
theorem dX0_init_39 : decode cX0_init 39 = .ok (.invokespecial 23, 3) := by decide +kernel
theorem dX0_init_42 : decode cX0_init 42 = .ok (.aastore, 1) := by decide +kernel
theorem dX0_init_43 : decode cX0_init 43 = .ok (.aload_n 0, 1) := by decide +kernel
theorem dX0_init_44 : decode cX0_init 44 = .ok (.getfield 19, 3) := by decide +kernel
theorem dX0_init_47 : decode cX0_init 47 = .ok (.iload_n 1, 1) := by decide +kernel
theorem dX0_init_48 : decode cX0_init 48 = .ok (.new 17, 3) := by decide +kernel
theorem dX0_init_51 : decode cX0_init 51 = .ok (.dup, 1) := by decide +kernel
theorem dX0_init_52 : decode cX0_init 52 = .ok (.invokespecial 24, 3) := by decide +kernel
theorem dX0_init_55 : decode cX0_init 55 = .ok (.aastore, 1) := by decide +kernel
theorem dX0_init_56 : decode cX0_init 56 = .ok (.iinc 1 1, 3) := by decide +kernel
theorem dX0_init_59 : decode cX0_init 59 = .ok (.goto (-35), 3) := by decide +kernel
theorem dX0_init_62 : decode cX0_init 62 = .ok (.aload_n 0, 1) := by decide +kernel
theorem dX0_init_63 : decode cX0_init 63 = .ok (.bipush 49, 2) := by decide +kernel
theorem dX0_init_65 : decode cX0_init 65 = .ok (.anewarray 25, 3) := by decide +kernel
theorem dX0_init_68 : decode cX0_init 68 = .ok (.putfield 27, 3) := by decide +kernel
theorem dX0_init_71 : decode cX0_init 71 = .ok (.iconst 0, 1) := by decide +kernel
theorem dX0_init_72 : decode cX0_init 72 = .ok (.istore_n 1, 1) := by decide +kernel
theorem dX0_init_73 : decode cX0_init 73 = .ok (.iload_n 1, 1) := by decide +kernel
theorem dX0_init_74 : decode cX0_init 74 = .ok (.aload_n 0, 1) := by decide +kernel
theorem dX0_init_75 : decode cX0_init 75 = .ok (.getfield 27, 3) := by decide +kernel
theorem dX0_init_78 : decode cX0_init 78 = .ok (.arraylength, 1) := by decide +kernel
theorem dX0_init_79 : decode cX0_init 79 = .ok (.if_icmp .ge 22, 3) := by decide +kernel
theorem dX0_init_82 : decode cX0_init 82 = .ok (.aload_n 0, 1) := by decide +kernel
theorem dX0_init_83 : decode cX0_init 83 = .ok (.getfield 27, 3) := by decide +kernel
theorem dX0_init_86 : decode cX0_init 86 = .ok (.iload_n 1, 1) := by decide +kernel
theorem dX0_init_87 : decode cX0_init 87 = .ok (.new 25, 3) := by decide +kernel
theorem dX0_init_90 : decode cX0_init 90 = .ok (.dup, 1) := by decide +kernel
theorem dX0_init_91 : decode cX0_init 91 = .ok (.invokespecial 31, 3) := by decide +kernel
theorem dX0_init_94 : decode cX0_init 94 = .ok (.aastore, 1) := by decide +kernel
theorem dX0_init_95 : decode cX0_init 95 = .ok (.iinc 1 1, 3) := by decide +kernel
theorem dX0_init_98 : decode cX0_init 98 = .ok (.goto (-25), 3) := by decide +kernel
theorem dX0_init_101 : decode cX0_init 101 = .ok (.aload_n 0, 1) := by decide +kernel
theorem dX0_init_102 : decode cX0_init 102 = .ok (.new 32, 3) := by decide +kernel
theorem dX0_init_105 : decode cX0_init 105 = .ok (.dup, 1) := by decide +kernel
theorem dX0_init_106 : decode cX0_init 106 = .ok (.invokespecial 34, 3) := by decide +kernel
theorem dX0_init_109 : decode cX0_init 109 = .ok (.putfield 35, 3) := by decide +kernel
theorem dX0_init_112 : decode cX0_init 112 = .ok (.aload_n 0, 1) := by decide +kernel
theorem dX0_init_113 : decode cX0_init 113 = .ok (.new 39, 3) := by decide +kernel
theorem dX0_init_116 : decode cX0_init 116 = .ok (.dup, 1) := by decide +kernel
theorem dX0_init_117 : decode cX0_init 117 = .ok (.invokespecial 41, 3) := by decide +kernel
theorem dX0_init_120 : decode cX0_init 120 = .ok (.putfield 42, 3) := by decide +kernel
theorem dX0_init_123 : decode cX0_init 123 = .ok (.aload_n 0, 1) := by decide +kernel
theorem dX0_init_124 : decode cX0_init 124 = .ok (.new 46, 3) := by decide +kernel
theorem dX0_init_127 : decode cX0_init 127 = .ok (.dup, 1) := by decide +kernel
theorem dX0_init_128 : decode cX0_init 128 = .ok (.invokespecial 48, 3) := by decide +kernel
theorem dX0_init_131 : decode cX0_init 131 = .ok (.putfield 49, 3) := by decide +kernel
theorem dX0_init_134 : decode cX0_init 134 = .ok (.aload_n 0, 1) := by decide +kernel
theorem dX0_init_135 : decode cX0_init 135 = .ok (.new 53, 3) := by decide +kernel
theorem dX0_init_138 : decode cX0_init 138 = .ok (.dup, 1) := by decide +kernel
theorem dX0_init_139 : decode cX0_init 139 = .ok (.aload_n 0, 1) := by decide +kernel
theorem dX0_init_140 : decode cX0_init 140 = .ok (.getfield 49, 3) := by decide +kernel
theorem dX0_init_143 : decode cX0_init 143 = .ok (.invokespecial 55, 3) := by decide +kernel
theorem dX0_init_146 : decode cX0_init 146 = .ok (.putfield 58, 3) := by decide +kernel
theorem dX0_init_149 : decode cX0_init 149 = .ok (.return_, 1) := by decide +kernel
set_option maxRecDepth 20000 in
theorem ggX0_takeOver_X8_nodeCount : GoodIn wsX0_takeOver wsX8_nodeCount := goodIn_r _ [16, 17, 85, 86, 87, 88, 89, 90] (by decide +kernel) (by decide +kernel)
set_option maxRecDepth 20000 in
theorem gX0_takeOver_X8_nodeCount : GoodIn wsX0_takeOver (wsV RX0 62 RX8 yX8_nodeCount wsX8_nodeCount) := goodIn_app (goodIn_of _ (by decide +kernel)) ggX0_takeOver_X8_nodeCount
set_option maxRecDepth 20000 in
theorem ggX0_takeOver_X5_begin : GoodIn wsX0_takeOver wsX5_begin := goodIn_r _ [22, 23, 24, 25, 26, 27, 28, 29, 91, 92, 93, 94, 95, 96, 97, 98] (by decide +kernel) (by decide +kernel)
set_option maxRecDepth 20000 in
theorem gX0_takeOver_X5_begin : GoodIn wsX0_takeOver (wsV RX0 76 RX5 yX5_begin wsX5_begin) := goodIn_app (goodIn_of _ (by decide +kernel)) ggX0_takeOver_X5_begin
set_option maxRecDepth 20000 in
theorem ggX0_takeOver_X0_anchorFrom : GoodIn wsX0_takeOver wsX0_anchorFrom := goodIn_r _ [34, 1, 35, 36, 37, 33, 38, 2, 4, 39, 40, 41, 42, 74, 75, 76, 77, 78, 79, 80, 81, 82, 83, 84, 91, 92, 93, 94, 95, 96, 97, 98] (by decide +kernel) (by decide +kernel)
set_option maxRecDepth 20000 in
theorem gX0_takeOver_X0_anchorFrom : GoodIn wsX0_takeOver (wsV RX0 84 RX0 yX0_anchorFrom wsX0_anchorFrom) := goodIn_app (goodIn_of _ (by decide +kernel)) ggX0_takeOver_X0_anchorFrom
set_option maxRecDepth 20000 in
theorem ggX0_takeOver_X4_begin : GoodIn wsX0_takeOver wsX4_begin := goodIn_r _ [47, 48, 49, 50, 51, 52, 53, 46, 54, 55, 56, 108, 109, 110, 111, 112] (by decide +kernel) (by decide +kernel)
set_option maxRecDepth 20000 in
theorem gX0_takeOver_X4_begin : GoodIn wsX0_takeOver (wsV RX0 91 RX4 yX4_begin wsX4_begin) := goodIn_app (goodIn_of _ (by decide +kernel)) ggX0_takeOver_X4_begin
set_option maxRecDepth 20000 in
theorem ggX0_takeOver_X9_clear : GoodIn wsX0_takeOver wsX9_clear := goodIn_r _ [61, 62, 63, 64, 65, 66, 113] (by decide +kernel) (by decide +kernel)
set_option maxRecDepth 20000 in
theorem gX0_takeOver_X9_clear : GoodIn wsX0_takeOver (wsV RX0 103 RX9 yX9_clear wsX9_clear) := goodIn_app (goodIn_of _ (by decide +kernel)) ggX0_takeOver_X9_clear
set_option maxRecDepth 20000 in
theorem ggX0_takeOver_X0_changeLimit : GoodIn wsX0_takeOver wsX0_changeLimit := goodIn_r _ [70, 71, 72, 73, 74, 75, 76, 77, 78, 79, 80, 81, 82, 83, 84, 114, 115, 116, 117, 118, 119] (by decide +kernel) (by decide +kernel)
set_option maxRecDepth 20000 in
theorem gX0_takeOver_X0_changeLimit : GoodIn wsX0_takeOver (wsV RX0 106 RX0 yX0_changeLimit wsX0_changeLimit) := goodIn_app (goodIn_of _ (by decide +kernel)) ggX0_takeOver_X0_changeLimit
theorem dX0_takeOver_0 : decode cX0_takeOver 0 = .ok (.aload_n 0, 1) := by decide +kernel
theorem dX0_takeOver_1 : decode cX0_takeOver 1 = .ok (.aload_n 1, 1) := by decide +kernel
theorem dX0_takeOver_2 : decode cX0_takeOver 2 = .ok (.invokevirtual 62, 3) := by decide +kernel
theorem dX0_takeOver_5 : decode cX0_takeOver 5 = .ok (.putfield 68, 3) := by decide +kernel
theorem dX0_takeOver_8 : decode cX0_takeOver 8 = .ok (.iconst 0, 1) := by decide +kernel
theorem dX0_takeOver_9 : decode cX0_takeOver 9 = .ok (.istore_n 2, 1) := by decide +kernel
theorem dX0_takeOver_10 : decode cX0_takeOver 10 = .ok (.iload_n 2, 1) := by decide +kernel
theorem dX0_takeOver_11 : decode cX0_takeOver 11 = .ok (.aload_n 0, 1) := by decide +kernel
theorem dX0_takeOver_12 : decode cX0_takeOver 12 = .ok (.getfield 68, 3) := by decide +kernel
theorem dX0_takeOver_15 : decode cX0_takeOver 15 = .ok (.if_icmp .ge 24, 3) := by decide +kernel
theorem dX0_takeOver_18 : decode cX0_takeOver 18 = .ok (.aload_n 0, 1) := by decide +kernel
theorem dX0_takeOver_19 : decode cX0_takeOver 19 = .ok (.getfield 11, 3) := by decide +kernel
theorem dX0_takeOver_22 : decode cX0_takeOver 22 = .ok (.iload_n 2, 1) := by decide +kernel
theorem dX0_takeOver_23 : decode cX0_takeOver 23 = .ok (.aaload, 1) := by decide +kernel
theorem dX0_takeOver_24 : decode cX0_takeOver 24 = .ok (.aload_n 1, 1) := by decide +kernel
theorem dX0_takeOver_25 : decode cX0_takeOver 25 = .ok (.getfield 72, 3) := by decide +kernel
theorem dX0_takeOver_28 : decode cX0_takeOver 28 = .ok (.iload_n 2, 1) := by decide +kernel
theorem dX0_takeOver_29 : decode cX0_takeOver 29 = .ok (.aaload, 1) := by decide +kernel
theorem dX0_takeOver_30 : decode cX0_takeOver 30 = .ok (.invokevirtual 76, 3) := by decide +kernel
theorem dX0_takeOver_33 : decode cX0_takeOver 33 = .ok (.iinc 2 1, 3) := by decide +kernel
theorem dX0_takeOver_36 : decode cX0_takeOver 36 = .ok (.goto (-26), 3) := by decide +kernel
theorem dX0_takeOver_39 : decode cX0_takeOver 39 = .ok (.iconst 0, 1) := by decide +kernel
theorem dX0_takeOver_40 : decode cX0_takeOver 40 = .ok (.istore_n 2, 1) := by decide +kernel
theorem dX0_takeOver_41 : decode cX0_takeOver 41 = .ok (.iload_n 2, 1) := by decide +kernel
theorem dX0_takeOver_42 : decode cX0_takeOver 42 = .ok (.aload_n 0, 1) := by decide +kernel
theorem dX0_takeOver_43 : decode cX0_takeOver 43 = .ok (.getfield 68, 3) := by decide +kernel
theorem dX0_takeOver_46 : decode cX0_takeOver 46 = .ok (.if_icmp .ge 39, 3) := by decide +kernel
theorem dX0_takeOver_49 : decode cX0_takeOver 49 = .ok (.aload_n 0, 1) := by decide +kernel
theorem dX0_takeOver_50 : decode cX0_takeOver 50 = .ok (.getfield 11, 3) := by decide +kernel
theorem dX0_takeOver_53 : decode cX0_takeOver 53 = .ok (.iload_n 2, 1) := by decide +kernel
theorem dX0_takeOver_54 : decode cX0_takeOver 54 = .ok (.aaload, 1) := by decide +kernel
theorem dX0_takeOver_55 : decode cX0_takeOver 55 = .ok (.aload_n 0, 1) := by decide +kernel
theorem dX0_takeOver_56 : decode cX0_takeOver 56 = .ok (.getfield 11, 3) := by decide +kernel
theorem dX0_takeOver_59 : decode cX0_takeOver 59 = .ok (.iload_n 2, 1) := by decide +kernel
theorem dX0_takeOver_60 : decode cX0_takeOver 60 = .ok (.aaload, 1) := by decide +kernel
theorem dX0_takeOver_61 : decode cX0_takeOver 61 = .ok (.getfield 80, 3) := by decide +kernel
theorem dX0_takeOver_64 : decode cX0_takeOver 64 = .ok (.ifCond .eq 11, 3) := by decide +kernel
theorem dX0_takeOver_67 : decode cX0_takeOver 67 = .ok (.aload_n 0, 1) := by decide +kernel
theorem dX0_takeOver_68 : decode cX0_takeOver 68 = .ok (.iconst 0, 1) := by decide +kernel
theorem dX0_takeOver_69 : decode cX0_takeOver 69 = .ok (.invokevirtual 84, 3) := by decide +kernel
theorem dX0_takeOver_72 : decode cX0_takeOver 72 = .ok (.goto 4, 3) := by decide +kernel
theorem dX0_takeOver_75 : decode cX0_takeOver 75 = .ok (.iconst (-1), 1) := by decide +kernel
theorem dX0_takeOver_76 : decode cX0_takeOver 76 = .ok (.putfield 88, 3) := by decide +kernel
theorem dX0_takeOver_79 : decode cX0_takeOver 79 = .ok (.iinc 2 1, 3) := by decide +kernel
theorem dX0_takeOver_82 : decode cX0_takeOver 82 = .ok (.goto (-41), 3) := by decide +kernel
theorem dX0_takeOver_85 : decode cX0_takeOver 85 = .ok (.iconst 0, 1) := by decide +kernel
theorem dX0_takeOver_86 : decode cX0_takeOver 86 = .ok (.istore_n 2, 1) := by decide +kernel
theorem dX0_takeOver_87 : decode cX0_takeOver 87 = .ok (.iload_n 2, 1) := by decide +kernel
theorem dX0_takeOver_88 : decode cX0_takeOver 88 = .ok (.aload_n 0, 1) := by decide +kernel
theorem dX0_takeOver_89 : decode cX0_takeOver 89 = .ok (.getfield 27, 3) := by decide +kernel
theorem dX0_takeOver_92 : decode cX0_takeOver 92 = .ok (.arraylength, 1) := by decide +kernel
theorem dX0_takeOver_93 : decode cX0_takeOver 93 = .ok (.if_icmp .ge 18, 3) := by decide +kernel
theorem dX0_takeOver_96 : decode cX0_takeOver 96 = .ok (.aload_n 0, 1) := by decide +kernel
theorem dX0_takeOver_97 : decode cX0_takeOver 97 = .ok (.getfield 27, 3) := by decide +kernel
theorem dX0_takeOver_100 : decode cX0_takeOver 100 = .ok (.iload_n 2, 1) := by decide +kernel
theorem dX0_takeOver_101 : decode cX0_takeOver 101 = .ok (.aaload, 1) := by decide +kernel
theorem dX0_takeOver_102 : decode cX0_takeOver 102 = .ok (.invokevirtual 91, 3) := by decide +kernel
theorem dX0_takeOver_105 : decode cX0_takeOver 105 = .ok (.iinc 2 1, 3) := by decide +kernel
theorem dX0_takeOver_108 : decode cX0_takeOver 108 = .ok (.goto (-21), 3) := by decide +kernel
theorem dX0_takeOver_111 : decode cX0_takeOver 111 = .ok (.aload_n 0, 1) := by decide +kernel
theorem dX0_takeOver_112 : decode cX0_takeOver 112 = .ok (.lconst 0, 1) := by decide +kernel
theorem dX0_takeOver_113 : decode cX0_takeOver 113 = .ok (.putfield 93, 3) := by decide +kernel
theorem dX0_takeOver_116 : decode cX0_takeOver 116 = .ok (.aload_n 0, 1) := by decide +kernel
theorem dX0_takeOver_117 : decode cX0_takeOver 117 = .ok (.iconst 4, 1) := by decide +kernel
theorem dX0_takeOver_118 : decode cX0_takeOver 118 = .ok (.putfield 97, 3) := by decide +kernel
theorem dX0_takeOver_121 : decode cX0_takeOver 121 = .ok (.aload_n 0, 1) := by decide +kernel
theorem dX0_takeOver_122 : decode cX0_takeOver 122 = .ok (.getfield 35, 3) := by decide +kernel
theorem dX0_takeOver_125 : decode cX0_takeOver 125 = .ok (.iconst 0, 1) := by decide +kernel
theorem dX0_takeOver_126 : decode cX0_takeOver 126 = .ok (.putfield 100, 3) := by decide +kernel
theorem dX0_takeOver_129 : decode cX0_takeOver 129 = .ok (.aload_n 0, 1) := by decide +kernel
theorem dX0_takeOver_130 : decode cX0_takeOver 130 = .ok (.getfield 42, 3) := by decide +kernel
theorem dX0_takeOver_133 : decode cX0_takeOver 133 = .ok (.invokevirtual 103, 3) := by decide +kernel
theorem dX0_takeOver_136 : decode cX0_takeOver 136 = .ok (.aload_n 0, 1) := by decide +kernel
theorem dX0_takeOver_137 : decode cX0_takeOver 137 = .ok (.sipush 400, 3) := by decide +kernel
theorem dX0_takeOver_140 : decode cX0_takeOver 140 = .ok (.invokevirtual 106, 3) := by decide +kernel
theorem dX0_takeOver_143 : decode cX0_takeOver 143 = .ok (.return_, 1) := by decide +kernel
theorem dX0_isRead_0 : decode cX0_isRead 0 = .ok (.aload_n 0, 1) := by decide +kernel
theorem dX0_isRead_1 : decode cX0_isRead 1 = .ok (.getfield 68, 3) := by decide +kernel
theorem dX0_isRead_4 : decode cX0_isRead 4 = .ok (.ifCond .le 7, 3) := by decide +kernel
theorem dX0_isRead_7 : decode cX0_isRead 7 = .ok (.iconst 1, 1) := by decide +kernel
theorem dX0_isRead_8 : decode cX0_isRead 8 = .ok (.goto 4, 3) := by decide +kernel
theorem dX0_isRead_11 : decode cX0_isRead 11 = .ok (.iconst 0, 1) := by decide +kernel
theorem dX0_isRead_12 : decode cX0_isRead 12 = .ok (.ireturn, 1) := by decide +kernel
theorem dX0_has_0 : decode cX0_has 0 = .ok (.iload_n 1, 1) := by decide +kernel
theorem dX0_has_1 : decode cX0_has 1 = .ok (.ifCond .lt 15, 3) := by decide +kernel
theorem dX0_has_4 : decode cX0_has 4 = .ok (.iload_n 1, 1) := by decide +kernel
theorem dX0_has_5 : decode cX0_has 5 = .ok (.aload_n 0, 1) := by decide +kernel
theorem dX0_has_6 : decode cX0_has 6 = .ok (.getfield 68, 3) := by decide +kernel
theorem dX0_has_9 : decode cX0_has 9 = .ok (.if_icmp .ge 7, 3) := by decide +kernel
theorem dX0_has_12 : decode cX0_has 12 = .ok (.iconst 1, 1) := by decide +kernel
theorem dX0_has_13 : decode cX0_has 13 = .ok (.goto 4, 3) := by decide +kernel
theorem dX0_has_16 : decode cX0_has 16 = .ok (.iconst 0, 1) := by decide +kernel
theorem dX0_has_17 : decode cX0_has 17 = .ok (.ireturn, 1) := by decide +kernel
set_option maxRecDepth 20000 in
theorem ggX0_isTag_X0_has : GoodIn wsX0_isTag wsX0_has := goodIn_r _ [7, 8, 9, 10, 11, 12, 13, 14, 15, 16, 17, 18, 19] (by decide +kernel) (by decide +kernel)
set_option maxRecDepth 20000 in
theorem gX0_isTag_X0_has : GoodIn wsX0_isTag (wsV RX0 110 RX0 yX0_has wsX0_has) := goodIn_app (goodIn_of _ (by decide +kernel)) ggX0_isTag_X0_has
theorem dX0_isTag_0 : decode cX0_isTag 0 = .ok (.aload_n 0, 1) := by decide +kernel
theorem dX0_isTag_1 : decode cX0_isTag 1 = .ok (.iload_n 1, 1) := by decide +kernel
theorem dX0_isTag_2 : decode cX0_isTag 2 = .ok (.invokevirtual 110, 3) := by decide +kernel
theorem dX0_isTag_5 : decode cX0_isTag 5 = .ok (.ifCond .eq 19, 3) := by decide +kernel
theorem dX0_isTag_8 : decode cX0_isTag 8 = .ok (.aload_n 0, 1) := by decide +kernel
theorem dX0_isTag_9 : decode cX0_isTag 9 = .ok (.getfield 11, 3) := by decide +kernel
theorem dX0_isTag_12 : decode cX0_isTag 12 = .ok (.iload_n 1, 1) := by decide +kernel
theorem dX0_isTag_13 : decode cX0_isTag 13 = .ok (.aaload, 1) := by decide +kernel
theorem dX0_isTag_14 : decode cX0_isTag 14 = .ok (.getfield 80, 3) := by decide +kernel
theorem dX0_isTag_17 : decode cX0_isTag 17 = .ok (.ifCond .eq 7, 3) := by decide +kernel
theorem dX0_isTag_20 : decode cX0_isTag 20 = .ok (.iconst 1, 1) := by decide +kernel
theorem dX0_isTag_21 : decode cX0_isTag 21 = .ok (.goto 4, 3) := by decide +kernel
theorem dX0_isTag_24 : decode cX0_isTag 24 = .ok (.iconst 0, 1) := by decide +kernel
theorem dX0_isTag_25 : decode cX0_isTag 25 = .ok (.ireturn, 1) := by decide +kernel
set_option maxRecDepth 20000 in
theorem ggX0_isAnchor_X0_has : GoodIn wsX0_isAnchor wsX0_has := goodIn_r _ [7, 8, 9, 10, 11, 12, 13, 14, 15, 16, 17, 18, 19] (by decide +kernel) (by decide +kernel)
set_option maxRecDepth 20000 in
theorem gX0_isAnchor_X0_has : GoodIn wsX0_isAnchor (wsV RX0 110 RX0 yX0_has wsX0_has) := goodIn_app (goodIn_of _ (by decide +kernel)) ggX0_isAnchor_X0_has
theorem dX0_isAnchor_0 : decode cX0_isAnchor 0 = .ok (.aload_n 0, 1) := by decide +kernel
theorem dX0_isAnchor_1 : decode cX0_isAnchor 1 = .ok (.iload_n 1, 1) := by decide +kernel
theorem dX0_isAnchor_2 : decode cX0_isAnchor 2 = .ok (.invokevirtual 110, 3) := by decide +kernel
theorem dX0_isAnchor_5 : decode cX0_isAnchor 5 = .ok (.ifCond .eq 19, 3) := by decide +kernel
theorem dX0_isAnchor_8 : decode cX0_isAnchor 8 = .ok (.aload_n 0, 1) := by decide +kernel
theorem dX0_isAnchor_9 : decode cX0_isAnchor 9 = .ok (.getfield 11, 3) := by decide +kernel
theorem dX0_isAnchor_12 : decode cX0_isAnchor 12 = .ok (.iload_n 1, 1) := by decide +kernel
theorem dX0_isAnchor_13 : decode cX0_isAnchor 13 = .ok (.aaload, 1) := by decide +kernel
theorem dX0_isAnchor_14 : decode cX0_isAnchor 14 = .ok (.getfield 80, 3) := by decide +kernel
theorem dX0_isAnchor_17 : decode cX0_isAnchor 17 = .ok (.ifCond .ne 7, 3) := by decide +kernel
theorem dX0_isAnchor_20 : decode cX0_isAnchor 20 = .ok (.iconst 1, 1) := by decide +kernel
theorem dX0_isAnchor_21 : decode cX0_isAnchor 21 = .ok (.goto 4, 3) := by decide +kernel
theorem dX0_isAnchor_24 : decode cX0_isAnchor 24 = .ok (.iconst 0, 1) := by decide +kernel
theorem dX0_isAnchor_25 : decode cX0_isAnchor 25 = .ok (.ireturn, 1) := by decide +kernel
set_option maxRecDepth 20000 in
theorem ggX0_hasPair_X0_isTag : GoodIn wsX0_hasPair wsX0_isTag := goodIn_r _ [5, 6, 7, 8, 9, 10, 4, 11, 12, 17, 18, 19, 20, 21, 22, 23, 24, 25, 26, 27, 28, 29, 30, 31, 32, 33, 34, 35] (by decide +kernel) (by decide +kernel)
set_option maxRecDepth 20000 in
theorem gX0_hasPair_X0_isTag : GoodIn wsX0_hasPair (wsV RX0 114 RX0 yX0_isTag wsX0_isTag) := goodIn_app (goodIn_of _ (by decide +kernel)) ggX0_hasPair_X0_isTag
set_option maxRecDepth 20000 in
theorem ggX0_hasPair_X0_isAnchor : GoodIn wsX0_hasPair wsX0_isAnchor := goodIn_r _ [16, 6, 7, 8, 9, 10, 4, 11, 12, 17, 18, 19, 20, 21, 22, 23, 24, 25, 26, 27, 28, 29, 30, 31, 32, 33, 34, 35] (by decide +kernel) (by decide +kernel)
set_option maxRecDepth 20000 in
theorem gX0_hasPair_X0_isAnchor : GoodIn wsX0_hasPair (wsV RX0 117 RX0 yX0_isAnchor wsX0_isAnchor) := goodIn_app (goodIn_of _ (by decide +kernel)) ggX0_hasPair_X0_isAnchor
theorem dX0_hasPair_0 : decode cX0_hasPair 0 = .ok (.aload_n 0, 1) := by decide +kernel
theorem dX0_hasPair_1 : decode cX0_hasPair 1 = .ok (.iload_n 1, 1) := by decide +kernel
theorem dX0_hasPair_2 : decode cX0_hasPair 2 = .ok (.invokevirtual 114, 3) := by decide +kernel
theorem dX0_hasPair_5 : decode cX0_hasPair 5 = .ok (.ifCond .eq 15, 3) := by decide +kernel
theorem dX0_hasPair_8 : decode cX0_hasPair 8 = .ok (.aload_n 0, 1) := by decide +kernel
theorem dX0_hasPair_9 : decode cX0_hasPair 9 = .ok (.iload_n 2, 1) := by decide +kernel
theorem dX0_hasPair_10 : decode cX0_hasPair 10 = .ok (.invokevirtual 117, 3) := by decide +kernel
theorem dX0_hasPair_13 : decode cX0_hasPair 13 = .ok (.ifCond .eq 7, 3) := by decide +kernel
theorem dX0_hasPair_16 : decode cX0_hasPair 16 = .ok (.iconst 1, 1) := by decide +kernel
theorem dX0_hasPair_17 : decode cX0_hasPair 17 = .ok (.goto 4, 3) := by decide +kernel
theorem dX0_hasPair_20 : decode cX0_hasPair 20 = .ok (.iconst 0, 1) := by decide +kernel
theorem dX0_hasPair_21 : decode cX0_hasPair 21 = .ok (.ireturn, 1) := by decide +kernel
set_option maxRecDepth 20000 in
theorem ggX0_tagCount_X0_isTag : GoodIn wsX0_tagCount wsX0_isTag := goodIn_r _ [6, 7, 8, 9, 10, 11, 5, 12, 1, 13, 14, 15, 16, 17, 18, 19, 20, 21, 22, 23, 24, 25, 26, 27, 28, 29, 30, 31] (by decide +kernel) (by decide +kernel)
set_option maxRecDepth 20000 in
theorem gX0_tagCount_X0_isTag : GoodIn wsX0_tagCount (wsV RX0 114 RX0 yX0_isTag wsX0_isTag) := goodIn_app (goodIn_of _ (by decide +kernel)) ggX0_tagCount_X0_isTag
theorem dX0_tagCount_0 : decode cX0_tagCount 0 = .ok (.iconst 0, 1) := by decide +kernel
theorem dX0_tagCount_1 : decode cX0_tagCount 1 = .ok (.istore_n 1, 1) := by decide +kernel
theorem dX0_tagCount_2 : decode cX0_tagCount 2 = .ok (.iconst 0, 1) := by decide +kernel
theorem dX0_tagCount_3 : decode cX0_tagCount 3 = .ok (.istore_n 2, 1) := by decide +kernel
theorem dX0_tagCount_4 : decode cX0_tagCount 4 = .ok (.iload_n 2, 1) := by decide +kernel
theorem dX0_tagCount_5 : decode cX0_tagCount 5 = .ok (.aload_n 0, 1) := by decide +kernel
theorem dX0_tagCount_6 : decode cX0_tagCount 6 = .ok (.getfield 68, 3) := by decide +kernel
theorem dX0_tagCount_9 : decode cX0_tagCount 9 = .ok (.if_icmp .ge 20, 3) := by decide +kernel
theorem dX0_tagCount_12 : decode cX0_tagCount 12 = .ok (.aload_n 0, 1) := by decide +kernel
theorem dX0_tagCount_13 : decode cX0_tagCount 13 = .ok (.iload_n 2, 1) := by decide +kernel
theorem dX0_tagCount_14 : decode cX0_tagCount 14 = .ok (.invokevirtual 114, 3) := by decide +kernel
theorem dX0_tagCount_17 : decode cX0_tagCount 17 = .ok (.ifCond .eq 6, 3) := by decide +kernel
theorem dX0_tagCount_20 : decode cX0_tagCount 20 = .ok (.iinc 1 1, 3) := by decide +kernel
theorem dX0_tagCount_23 : decode cX0_tagCount 23 = .ok (.iinc 2 1, 3) := by decide +kernel
theorem dX0_tagCount_26 : decode cX0_tagCount 26 = .ok (.goto (-22), 3) := by decide +kernel
theorem dX0_tagCount_29 : decode cX0_tagCount 29 = .ok (.iload_n 1, 1) := by decide +kernel
theorem dX0_tagCount_30 : decode cX0_tagCount 30 = .ok (.ireturn, 1) := by decide +kernel
set_option maxRecDepth 20000 in
theorem ggX0_anchorFrom_X0_isAnchor : GoodIn wsX0_anchorFrom wsX0_isAnchor := goodIn_r _ [6, 7, 8, 9, 10, 11, 5, 12, 1, 13, 14, 15, 16, 17, 18, 19, 20, 21, 22, 23, 24, 25, 26, 27, 28, 29, 30, 31] (by decide +kernel) (by decide +kernel)
set_option maxRecDepth 20000 in
theorem gX0_anchorFrom_X0_isAnchor : GoodIn wsX0_anchorFrom (wsV RX0 117 RX0 yX0_isAnchor wsX0_isAnchor) := goodIn_app (goodIn_of _ (by decide +kernel)) ggX0_anchorFrom_X0_isAnchor
theorem dX0_anchorFrom_0 : decode cX0_anchorFrom 0 = .ok (.iload_n 1, 1) := by decide +kernel
theorem dX0_anchorFrom_1 : decode cX0_anchorFrom 1 = .ok (.istore_n 2, 1) := by decide +kernel
theorem dX0_anchorFrom_2 : decode cX0_anchorFrom 2 = .ok (.iload_n 2, 1) := by decide +kernel
theorem dX0_anchorFrom_3 : decode cX0_anchorFrom 3 = .ok (.aload_n 0, 1) := by decide +kernel
theorem dX0_anchorFrom_4 : decode cX0_anchorFrom 4 = .ok (.getfield 68, 3) := by decide +kernel
theorem dX0_anchorFrom_7 : decode cX0_anchorFrom 7 = .ok (.if_icmp .ge 19, 3) := by decide +kernel
theorem dX0_anchorFrom_10 : decode cX0_anchorFrom 10 = .ok (.aload_n 0, 1) := by decide +kernel
theorem dX0_anchorFrom_11 : decode cX0_anchorFrom 11 = .ok (.iload_n 2, 1) := by decide +kernel
theorem dX0_anchorFrom_12 : decode cX0_anchorFrom 12 = .ok (.invokevirtual 117, 3) := by decide +kernel
theorem dX0_anchorFrom_15 : decode cX0_anchorFrom 15 = .ok (.ifCond .eq 5, 3) := by decide +kernel
theorem dX0_anchorFrom_18 : decode cX0_anchorFrom 18 = .ok (.iload_n 2, 1) := by decide +kernel
theorem dX0_anchorFrom_19 : decode cX0_anchorFrom 19 = .ok (.ireturn, 1) := by decide +kernel
theorem dX0_anchorFrom_20 : decode cX0_anchorFrom 20 = .ok (.iinc 2 1, 3) := by decide +kernel
theorem dX0_anchorFrom_23 : decode cX0_anchorFrom 23 = .ok (.goto (-21), 3) := by decide +kernel
theorem dX0_anchorFrom_26 : decode cX0_anchorFrom 26 = .ok (.iconst (-1), 1) := by decide +kernel
theorem dX0_anchorFrom_27 : decode cX0_anchorFrom 27 = .ok (.ireturn, 1) := by decide +kernel
set_option maxRecDepth 20000 in
theorem ggX0_anchorBehind_X0_anchorFrom : GoodIn wsX0_anchorBehind wsX0_anchorFrom := goodIn_r _ [5, 6, 7, 8, 9, 4, 10, 11, 12, 13, 14, 15, 16, 17, 18, 19, 20, 21, 22, 23, 24, 25, 26, 27, 28, 29, 30, 31, 32, 33, 34, 35] (by decide +kernel) (by decide +kernel)
set_option maxRecDepth 20000 in
theorem gX0_anchorBehind_X0_anchorFrom : GoodIn wsX0_anchorBehind (wsV RX0 84 RX0 yX0_anchorFrom wsX0_anchorFrom) := goodIn_app (goodIn_of _ (by decide +kernel)) ggX0_anchorBehind_X0_anchorFrom
theorem dX0_anchorBehind_0 : decode cX0_anchorBehind 0 = .ok (.aload_n 0, 1) := by decide +kernel
theorem dX0_anchorBehind_1 : decode cX0_anchorBehind 1 = .ok (.iload_n 1, 1) := by decide +kernel
theorem dX0_anchorBehind_2 : decode cX0_anchorBehind 2 = .ok (.iconst 1, 1) := by decide +kernel
theorem dX0_anchorBehind_3 : decode cX0_anchorBehind 3 = .ok (.iadd, 1) := by decide +kernel
theorem dX0_anchorBehind_4 : decode cX0_anchorBehind 4 = .ok (.invokevirtual 84, 3) := by decide +kernel
theorem dX0_anchorBehind_7 : decode cX0_anchorBehind 7 = .ok (.istore_n 2, 1) := by decide +kernel
theorem dX0_anchorBehind_8 : decode cX0_anchorBehind 8 = .ok (.iload_n 2, 1) := by decide +kernel
theorem dX0_anchorBehind_9 : decode cX0_anchorBehind 9 = .ok (.iconst (-1), 1) := by decide +kernel
theorem dX0_anchorBehind_10 : decode cX0_anchorBehind 10 = .ok (.if_icmp .ne 11, 3) := by decide +kernel
theorem dX0_anchorBehind_13 : decode cX0_anchorBehind 13 = .ok (.aload_n 0, 1) := by decide +kernel
theorem dX0_anchorBehind_14 : decode cX0_anchorBehind 14 = .ok (.iconst 0, 1) := by decide +kernel
theorem dX0_anchorBehind_15 : decode cX0_anchorBehind 15 = .ok (.invokevirtual 84, 3) := by decide +kernel
theorem dX0_anchorBehind_18 : decode cX0_anchorBehind 18 = .ok (.goto 4, 3) := by decide +kernel
theorem dX0_anchorBehind_21 : decode cX0_anchorBehind 21 = .ok (.iload_n 2, 1) := by decide +kernel
theorem dX0_anchorBehind_22 : decode cX0_anchorBehind 22 = .ok (.ireturn, 1) := by decide +kernel
theorem dX0_linkOf_0 : decode cX0_linkOf 0 = .ok (.aload_n 0, 1) := by decide +kernel
theorem dX0_linkOf_1 : decode cX0_linkOf 1 = .ok (.getfield 27, 3) := by decide +kernel
theorem dX0_linkOf_4 : decode cX0_linkOf 4 = .ok (.iload_n 1, 1) := by decide +kernel
theorem dX0_linkOf_5 : decode cX0_linkOf 5 = .ok (.bipush 7, 2) := by decide +kernel
theorem dX0_linkOf_7 : decode cX0_linkOf 7 = .ok (.imul, 1) := by decide +kernel
theorem dX0_linkOf_8 : decode cX0_linkOf 8 = .ok (.iload_n 2, 1) := by decide +kernel
theorem dX0_linkOf_9 : decode cX0_linkOf 9 = .ok (.iadd, 1) := by decide +kernel
theorem dX0_linkOf_10 : decode cX0_linkOf 10 = .ok (.aaload, 1) := by decide +kernel
theorem dX0_linkOf_11 : decode cX0_linkOf 11 = .ok (.areturn, 1) := by decide +kernel
set_option maxRecDepth 20000 in
theorem ggX0_flightBetween_X2_over : GoodIn wsX0_flightBetween wsX2_over := goodIn_r _ [9, 10, 30] (by decide +kernel) (by decide +kernel)
set_option maxRecDepth 20000 in
theorem gX0_flightBetween_X2_over : GoodIn wsX0_flightBetween (wsV RX0 126 RX2 yX2_over wsX2_over) := goodIn_app (goodIn_of _ (by decide +kernel)) ggX0_flightBetween_X2_over
theorem dX0_flightBetween_0 : decode cX0_flightBetween 0 = .ok (.aload_n 0, 1) := by decide +kernel
theorem dX0_flightBetween_1 : decode cX0_flightBetween 1 = .ok (.getfield 49, 3) := by decide +kernel
theorem dX0_flightBetween_4 : decode cX0_flightBetween 4 = .ok (.aload_n 0, 1) := by decide +kernel
theorem dX0_flightBetween_5 : decode cX0_flightBetween 5 = .ok (.getfield 11, 3) := by decide +kernel
theorem dX0_flightBetween_8 : decode cX0_flightBetween 8 = .ok (.iload_n 1, 1) := by decide +kernel
theorem dX0_flightBetween_9 : decode cX0_flightBetween 9 = .ok (.aaload, 1) := by decide +kernel
theorem dX0_flightBetween_10 : decode cX0_flightBetween 10 = .ok (.getfield 120, 3) := by decide +kernel
theorem dX0_flightBetween_13 : decode cX0_flightBetween 13 = .ok (.aload_n 0, 1) := by decide +kernel
theorem dX0_flightBetween_14 : decode cX0_flightBetween 14 = .ok (.getfield 11, 3) := by decide +kernel
theorem dX0_flightBetween_17 : decode cX0_flightBetween 17 = .ok (.iload_n 2, 1) := by decide +kernel
theorem dX0_flightBetween_18 : decode cX0_flightBetween 18 = .ok (.aaload, 1) := by decide +kernel
theorem dX0_flightBetween_19 : decode cX0_flightBetween 19 = .ok (.getfield 120, 3) := by decide +kernel
theorem dX0_flightBetween_22 : decode cX0_flightBetween 22 = .ok (.isub, 1) := by decide +kernel
theorem dX0_flightBetween_23 : decode cX0_flightBetween 23 = .ok (.aload_n 0, 1) := by decide +kernel
theorem dX0_flightBetween_24 : decode cX0_flightBetween 24 = .ok (.getfield 11, 3) := by decide +kernel
theorem dX0_flightBetween_27 : decode cX0_flightBetween 27 = .ok (.iload_n 1, 1) := by decide +kernel
theorem dX0_flightBetween_28 : decode cX0_flightBetween 28 = .ok (.aaload, 1) := by decide +kernel
theorem dX0_flightBetween_29 : decode cX0_flightBetween 29 = .ok (.getfield 123, 3) := by decide +kernel
theorem dX0_flightBetween_32 : decode cX0_flightBetween 32 = .ok (.aload_n 0, 1) := by decide +kernel
theorem dX0_flightBetween_33 : decode cX0_flightBetween 33 = .ok (.getfield 11, 3) := by decide +kernel
theorem dX0_flightBetween_36 : decode cX0_flightBetween 36 = .ok (.iload_n 2, 1) := by decide +kernel
theorem dX0_flightBetween_37 : decode cX0_flightBetween 37 = .ok (.aaload, 1) := by decide +kernel
theorem dX0_flightBetween_38 : decode cX0_flightBetween 38 = .ok (.getfield 123, 3) := by decide +kernel
theorem dX0_flightBetween_41 : decode cX0_flightBetween 41 = .ok (.isub, 1) := by decide +kernel
theorem dX0_flightBetween_42 : decode cX0_flightBetween 42 = .ok (.invokevirtual 126, 3) := by decide +kernel
theorem dX0_flightBetween_45 : decode cX0_flightBetween 45 = .ok (.ireturn, 1) := by decide +kernel
theorem dX0_waitUntil_0 : decode cX0_waitUntil 0 = .ok (.aload_n 0, 1) := by decide +kernel
theorem dX0_waitUntil_1 : decode cX0_waitUntil 1 = .ok (.aload_n 0, 1) := by decide +kernel
theorem dX0_waitUntil_2 : decode cX0_waitUntil 2 = .ok (.getfield 93, 3) := by decide +kernel
theorem dX0_waitUntil_5 : decode cX0_waitUntil 5 = .ok (.lload_n 1, 1) := by decide +kernel
theorem dX0_waitUntil_6 : decode cX0_waitUntil 6 = .ok (.invokestatic 130, 3) := by decide +kernel
theorem dX0_waitUntil_9 : decode cX0_waitUntil 9 = .ok (.putfield 93, 3) := by decide +kernel
theorem dX0_waitUntil_12 : decode cX0_waitUntil 12 = .ok (.return_, 1) := by decide +kernel
set_option maxRecDepth 20000 in
theorem ggX0_sendPulses_X0_linkOf : GoodIn wsX0_sendPulses wsX0_linkOf := goodIn_r _ [20, 21, 76, 77, 78, 79, 80, 81, 82, 83, 84, 85, 86] (by decide +kernel) (by decide +kernel)
set_option maxRecDepth 20000 in
theorem gX0_sendPulses_X0_linkOf : GoodIn wsX0_sendPulses (wsV RX0 136 RX0 yX0_linkOf wsX0_linkOf) := goodIn_app (goodIn_of _ (by decide +kernel)) ggX0_sendPulses_X0_linkOf
set_option maxRecDepth 20000 in
theorem ggX0_sendPulses_X4_leastExtra : GoodIn wsX0_sendPulses wsX4_leastExtra := goodIn_r _ [26, 27, 28, 29, 96, 97, 98, 99, 100] (by decide +kernel) (by decide +kernel)
set_option maxRecDepth 20000 in
theorem gX0_sendPulses_X4_leastExtra : GoodIn wsX0_sendPulses (wsV RX0 140 RX4 yX4_leastExtra wsX4_leastExtra) := goodIn_app (goodIn_of _ (by decide +kernel)) ggX0_sendPulses_X4_leastExtra
set_option maxRecDepth 20000 in
theorem ggX0_sendPulses_X0_flightBetween : GoodIn wsX0_sendPulses wsX0_flightBetween := goodIn_r _ [33, 34, 5, 35, 36, 37, 38, 39, 40, 41, 42, 76, 77, 78, 79, 80, 81, 82, 83, 84, 85, 86, 107, 108, 109, 110, 111, 112, 113, 114, 115] (by decide +kernel) (by decide +kernel)
set_option maxRecDepth 20000 in
theorem gX0_sendPulses_X0_flightBetween : GoodIn wsX0_sendPulses (wsV RX0 144 RX0 yX0_flightBetween wsX0_flightBetween) := goodIn_app (goodIn_of _ (by decide +kernel)) ggX0_sendPulses_X0_flightBetween
set_option maxRecDepth 20000 in
theorem ggX0_sendPulses_X3_stamp : GoodIn wsX0_sendPulses wsX3_stamp := goodIn_r _ [47, 48, 49, 50, 51, 52, 53, 54, 55, 56, 57, 58, 59, 60, 61, 62, 63, 64, 65, 66, 46, 67, 68, 69, 70, 71, 72, 73, 74, 75, 107, 108, 109, 110, 111, 112, 113, 114, 87, 88, 89, 90, 91, 92, 93, 94, 95] (by decide +kernel) (by decide +kernel)
set_option maxRecDepth 20000 in
theorem gX0_sendPulses_X3_stamp : GoodIn wsX0_sendPulses (wsV RX0 147 RX3 yX3_stamp wsX3_stamp) := goodIn_app (goodIn_of _ (by decide +kernel)) ggX0_sendPulses_X3_stamp
theorem dX0_sendPulses_0 : decode cX0_sendPulses 0 = .ok (.aload_n 0, 1) := by decide +kernel
theorem dX0_sendPulses_1 : decode cX0_sendPulses 1 = .ok (.iload_n 1, 1) := by decide +kernel
theorem dX0_sendPulses_2 : decode cX0_sendPulses 2 = .ok (.iload_n 2, 1) := by decide +kernel
theorem dX0_sendPulses_3 : decode cX0_sendPulses 3 = .ok (.invokevirtual 136, 3) := by decide +kernel
theorem dX0_sendPulses_6 : decode cX0_sendPulses 6 = .ok (.astore_n 3, 1) := by decide +kernel
theorem dX0_sendPulses_7 : decode cX0_sendPulses 7 = .ok (.aload_n 3, 1) := by decide +kernel
theorem dX0_sendPulses_8 : decode cX0_sendPulses 8 = .ok (.aload_n 0, 1) := by decide +kernel
theorem dX0_sendPulses_9 : decode cX0_sendPulses 9 = .ok (.getfield 97, 3) := by decide +kernel
theorem dX0_sendPulses_12 : decode cX0_sendPulses 12 = .ok (.invokevirtual 140, 3) := by decide +kernel
theorem dX0_sendPulses_15 : decode cX0_sendPulses 15 = .ok (.istore 4, 2) := by decide +kernel
theorem dX0_sendPulses_17 : decode cX0_sendPulses 17 = .ok (.iload 4, 2) := by decide +kernel
theorem dX0_sendPulses_19 : decode cX0_sendPulses 19 = .ok (.iconst (-1), 1) := by decide +kernel
theorem dX0_sendPulses_20 : decode cX0_sendPulses 20 = .ok (.if_icmp .ne 16, 3) := by decide +kernel
theorem dX0_sendPulses_23 : decode cX0_sendPulses 23 = .ok (.aload_n 0, 1) := by decide +kernel
theorem dX0_sendPulses_24 : decode cX0_sendPulses 24 = .ok (.dup, 1) := by decide +kernel
theorem dX0_sendPulses_25 : decode cX0_sendPulses 25 = .ok (.getfield 93, 3) := by decide +kernel
theorem dX0_sendPulses_28 : decode cX0_sendPulses 28 = .ok (.lconst 1, 1) := by decide +kernel
theorem dX0_sendPulses_29 : decode cX0_sendPulses 29 = .ok (.ladd, 1) := by decide +kernel
theorem dX0_sendPulses_30 : decode cX0_sendPulses 30 = .ok (.putfield 93, 3) := by decide +kernel
theorem dX0_sendPulses_33 : decode cX0_sendPulses 33 = .ok (.ldc 143, 2) := by decide +kernel
theorem dX0_sendPulses_35 : decode cX0_sendPulses 35 = .ok (.ireturn, 1) := by decide +kernel
theorem dX0_sendPulses_36 : decode cX0_sendPulses 36 = .ok (.aload_n 0, 1) := by decide +kernel
theorem dX0_sendPulses_37 : decode cX0_sendPulses 37 = .ok (.iload_n 1, 1) := by decide +kernel
theorem dX0_sendPulses_38 : decode cX0_sendPulses 38 = .ok (.iload_n 2, 1) := by decide +kernel
theorem dX0_sendPulses_39 : decode cX0_sendPulses 39 = .ok (.invokevirtual 144, 3) := by decide +kernel
theorem dX0_sendPulses_42 : decode cX0_sendPulses 42 = .ok (.istore 5, 2) := by decide +kernel
theorem dX0_sendPulses_44 : decode cX0_sendPulses 44 = .ok (.aload_n 0, 1) := by decide +kernel
theorem dX0_sendPulses_45 : decode cX0_sendPulses 45 = .ok (.aload_n 0, 1) := by decide +kernel
theorem dX0_sendPulses_46 : decode cX0_sendPulses 46 = .ok (.getfield 35, 3) := by decide +kernel
theorem dX0_sendPulses_49 : decode cX0_sendPulses 49 = .ok (.aload_n 0, 1) := by decide +kernel
theorem dX0_sendPulses_50 : decode cX0_sendPulses 50 = .ok (.getfield 11, 3) := by decide +kernel
theorem dX0_sendPulses_53 : decode cX0_sendPulses 53 = .ok (.iload_n 1, 1) := by decide +kernel
theorem dX0_sendPulses_54 : decode cX0_sendPulses 54 = .ok (.aaload, 1) := by decide +kernel
theorem dX0_sendPulses_55 : decode cX0_sendPulses 55 = .ok (.aload_n 0, 1) := by decide +kernel
theorem dX0_sendPulses_56 : decode cX0_sendPulses 56 = .ok (.getfield 11, 3) := by decide +kernel
theorem dX0_sendPulses_59 : decode cX0_sendPulses 59 = .ok (.iload_n 2, 1) := by decide +kernel
theorem dX0_sendPulses_60 : decode cX0_sendPulses 60 = .ok (.aaload, 1) := by decide +kernel
theorem dX0_sendPulses_61 : decode cX0_sendPulses 61 = .ok (.aload_n 0, 1) := by decide +kernel
theorem dX0_sendPulses_62 : decode cX0_sendPulses 62 = .ok (.getfield 93, 3) := by decide +kernel
theorem dX0_sendPulses_65 : decode cX0_sendPulses 65 = .ok (.iload 5, 2) := by decide +kernel
theorem dX0_sendPulses_67 : decode cX0_sendPulses 67 = .ok (.iload 4, 2) := by decide +kernel
theorem dX0_sendPulses_69 : decode cX0_sendPulses 69 = .ok (.iadd, 1) := by decide +kernel
theorem dX0_sendPulses_70 : decode cX0_sendPulses 70 = .ok (.invokevirtual 147, 3) := by decide +kernel
theorem dX0_sendPulses_73 : decode cX0_sendPulses 73 = .ok (.ldc2_w 151, 3) := by decide +kernel
theorem dX0_sendPulses_76 : decode cX0_sendPulses 76 = .ok (.ladd, 1) := by decide +kernel
theorem dX0_sendPulses_77 : decode cX0_sendPulses 77 = .ok (.putfield 93, 3) := by decide +kernel
theorem dX0_sendPulses_80 : decode cX0_sendPulses 80 = .ok (.aload_n 0, 1) := by decide +kernel
theorem dX0_sendPulses_81 : decode cX0_sendPulses 81 = .ok (.getfield 35, 3) := by decide +kernel
theorem dX0_sendPulses_84 : decode cX0_sendPulses 84 = .ok (.iconst 1, 1) := by decide +kernel
theorem dX0_sendPulses_85 : decode cX0_sendPulses 85 = .ok (.putfield 100, 3) := by decide +kernel
theorem dX0_sendPulses_88 : decode cX0_sendPulses 88 = .ok (.aload_n 0, 1) := by decide +kernel
theorem dX0_sendPulses_89 : decode cX0_sendPulses 89 = .ok (.getfield 35, 3) := by decide +kernel
theorem dX0_sendPulses_92 : decode cX0_sendPulses 92 = .ok (.iload_n 1, 1) := by decide +kernel
theorem dX0_sendPulses_93 : decode cX0_sendPulses 93 = .ok (.putfield 153, 3) := by decide +kernel
theorem dX0_sendPulses_96 : decode cX0_sendPulses 96 = .ok (.aload_n 0, 1) := by decide +kernel
theorem dX0_sendPulses_97 : decode cX0_sendPulses 97 = .ok (.getfield 35, 3) := by decide +kernel
theorem dX0_sendPulses_100 : decode cX0_sendPulses 100 = .ok (.iload_n 2, 1) := by decide +kernel
theorem dX0_sendPulses_101 : decode cX0_sendPulses 101 = .ok (.putfield 155, 3) := by decide +kernel
theorem dX0_sendPulses_104 : decode cX0_sendPulses 104 = .ok (.aload_n 0, 1) := by decide +kernel
theorem dX0_sendPulses_105 : decode cX0_sendPulses 105 = .ok (.getfield 35, 3) := by decide +kernel
theorem dX0_sendPulses_108 : decode cX0_sendPulses 108 = .ok (.iload 5, 2) := by decide +kernel
theorem dX0_sendPulses_110 : decode cX0_sendPulses 110 = .ok (.putfield 158, 3) := by decide +kernel
theorem dX0_sendPulses_113 : decode cX0_sendPulses 113 = .ok (.aload_n 3, 1) := by decide +kernel
theorem dX0_sendPulses_114 : decode cX0_sendPulses 114 = .ok (.iconst 1, 1) := by decide +kernel
theorem dX0_sendPulses_115 : decode cX0_sendPulses 115 = .ok (.putfield 161, 3) := by decide +kernel
theorem dX0_sendPulses_118 : decode cX0_sendPulses 118 = .ok (.aload_n 3, 1) := by decide +kernel
theorem dX0_sendPulses_119 : decode cX0_sendPulses 119 = .ok (.aload_n 0, 1) := by decide +kernel
theorem dX0_sendPulses_120 : decode cX0_sendPulses 120 = .ok (.getfield 35, 3) := by decide +kernel
theorem dX0_sendPulses_123 : decode cX0_sendPulses 123 = .ok (.getfield 164, 3) := by decide +kernel
theorem dX0_sendPulses_126 : decode cX0_sendPulses 126 = .ok (.putfield 167, 3) := by decide +kernel
theorem dX0_sendPulses_129 : decode cX0_sendPulses 129 = .ok (.aload_n 0, 1) := by decide +kernel
theorem dX0_sendPulses_130 : decode cX0_sendPulses 130 = .ok (.getfield 19, 3) := by decide +kernel
theorem dX0_sendPulses_133 : decode cX0_sendPulses 133 = .ok (.iload_n 1, 1) := by decide +kernel
theorem dX0_sendPulses_134 : decode cX0_sendPulses 134 = .ok (.aaload, 1) := by decide +kernel
theorem dX0_sendPulses_135 : decode cX0_sendPulses 135 = .ok (.iconst 0, 1) := by decide +kernel
theorem dX0_sendPulses_136 : decode cX0_sendPulses 136 = .ok (.putfield 170, 3) := by decide +kernel
theorem dX0_sendPulses_139 : decode cX0_sendPulses 139 = .ok (.aload_n 0, 1) := by decide +kernel
theorem dX0_sendPulses_140 : decode cX0_sendPulses 140 = .ok (.getfield 35, 3) := by decide +kernel
theorem dX0_sendPulses_143 : decode cX0_sendPulses 143 = .ok (.getfield 164, 3) := by decide +kernel
theorem dX0_sendPulses_146 : decode cX0_sendPulses 146 = .ok (.ireturn, 1) := by decide +kernel
set_option maxRecDepth 20000 in
theorem ggX0_heardBy_X0_flightBetween : GoodIn wsX0_heardBy wsX0_flightBetween := goodIn_r _ [12, 13, 6, 14, 15, 16, 17, 18, 19, 20, 21, 40, 41, 42, 43, 44, 45, 46, 47, 48, 49, 50, 60, 61, 62, 63, 64, 65, 66, 67, 68] (by decide +kernel) (by decide +kernel)
set_option maxRecDepth 20000 in
theorem gX0_heardBy_X0_flightBetween : GoodIn wsX0_heardBy (wsV RX0 144 RX0 yX0_flightBetween wsX0_flightBetween) := goodIn_app (goodIn_of _ (by decide +kernel)) ggX0_heardBy_X0_flightBetween
set_option maxRecDepth 20000 in
theorem ggX0_heardBy_X5_clockAt : GoodIn wsX0_heardBy wsX5_clockAt := goodIn_r _ [26, 27, 28, 29, 30, 31, 32, 33, 60, 61, 62, 63, 64, 65, 66, 67] (by decide +kernel) (by decide +kernel)
set_option maxRecDepth 20000 in
theorem gX0_heardBy_X5_clockAt : GoodIn wsX0_heardBy (wsV RX0 177 RX5 yX5_clockAt wsX5_clockAt) := goodIn_app (goodIn_of _ (by decide +kernel)) ggX0_heardBy_X5_clockAt
set_option maxRecDepth 20000 in
theorem ggX0_heardBy_X3_replyA : GoodIn wsX0_heardBy wsX3_replyA := goodIn_r _ [38, 39, 51, 52, 53, 54, 55, 56, 57, 58, 59] (by decide +kernel) (by decide +kernel)
set_option maxRecDepth 20000 in
theorem gX0_heardBy_X3_replyA : GoodIn wsX0_heardBy (wsV RX0 181 RX3 yX3_replyA wsX3_replyA) := goodIn_app (goodIn_of _ (by decide +kernel)) ggX0_heardBy_X3_replyA
theorem dX0_heardBy_0 : decode cX0_heardBy 0 = .ok (.aload_n 0, 1) := by decide +kernel
theorem dX0_heardBy_1 : decode cX0_heardBy 1 = .ok (.getfield 35, 3) := by decide +kernel
theorem dX0_heardBy_4 : decode cX0_heardBy 4 = .ok (.getfield 171, 3) := by decide +kernel
theorem dX0_heardBy_7 : decode cX0_heardBy 7 = .ok (.aload_n 0, 1) := by decide +kernel
theorem dX0_heardBy_8 : decode cX0_heardBy 8 = .ok (.iload_n 1, 1) := by decide +kernel
theorem dX0_heardBy_9 : decode cX0_heardBy 9 = .ok (.aload_n 0, 1) := by decide +kernel
theorem dX0_heardBy_10 : decode cX0_heardBy 10 = .ok (.getfield 35, 3) := by decide +kernel
theorem dX0_heardBy_13 : decode cX0_heardBy 13 = .ok (.getfield 153, 3) := by decide +kernel
theorem dX0_heardBy_16 : decode cX0_heardBy 16 = .ok (.invokevirtual 144, 3) := by decide +kernel
theorem dX0_heardBy_19 : decode cX0_heardBy 19 = .ok (.i2l, 1) := by decide +kernel
theorem dX0_heardBy_20 : decode cX0_heardBy 20 = .ok (.ladd, 1) := by decide +kernel
theorem dX0_heardBy_21 : decode cX0_heardBy 21 = .ok (.lstore_n 2, 1) := by decide +kernel
theorem dX0_heardBy_22 : decode cX0_heardBy 22 = .ok (.aload_n 0, 1) := by decide +kernel
theorem dX0_heardBy_23 : decode cX0_heardBy 23 = .ok (.getfield 35, 3) := by decide +kernel
theorem dX0_heardBy_26 : decode cX0_heardBy 26 = .ok (.getfield 174, 3) := by decide +kernel
theorem dX0_heardBy_29 : decode cX0_heardBy 29 = .ok (.aload_n 0, 1) := by decide +kernel
theorem dX0_heardBy_30 : decode cX0_heardBy 30 = .ok (.iload_n 1, 1) := by decide +kernel
theorem dX0_heardBy_31 : decode cX0_heardBy 31 = .ok (.aload_n 0, 1) := by decide +kernel
theorem dX0_heardBy_32 : decode cX0_heardBy 32 = .ok (.getfield 35, 3) := by decide +kernel
theorem dX0_heardBy_35 : decode cX0_heardBy 35 = .ok (.getfield 155, 3) := by decide +kernel
theorem dX0_heardBy_38 : decode cX0_heardBy 38 = .ok (.invokevirtual 144, 3) := by decide +kernel
theorem dX0_heardBy_41 : decode cX0_heardBy 41 = .ok (.i2l, 1) := by decide +kernel
theorem dX0_heardBy_42 : decode cX0_heardBy 42 = .ok (.ladd, 1) := by decide +kernel
theorem dX0_heardBy_43 : decode cX0_heardBy 43 = .ok (.lstore 4, 2) := by decide +kernel
theorem dX0_heardBy_45 : decode cX0_heardBy 45 = .ok (.aload_n 0, 1) := by decide +kernel
theorem dX0_heardBy_46 : decode cX0_heardBy 46 = .ok (.getfield 11, 3) := by decide +kernel
theorem dX0_heardBy_49 : decode cX0_heardBy 49 = .ok (.iload_n 1, 1) := by decide +kernel
theorem dX0_heardBy_50 : decode cX0_heardBy 50 = .ok (.aaload, 1) := by decide +kernel
theorem dX0_heardBy_51 : decode cX0_heardBy 51 = .ok (.lload 4, 2) := by decide +kernel
theorem dX0_heardBy_53 : decode cX0_heardBy 53 = .ok (.invokevirtual 177, 3) := by decide +kernel
theorem dX0_heardBy_56 : decode cX0_heardBy 56 = .ok (.aload_n 0, 1) := by decide +kernel
theorem dX0_heardBy_57 : decode cX0_heardBy 57 = .ok (.getfield 11, 3) := by decide +kernel
theorem dX0_heardBy_60 : decode cX0_heardBy 60 = .ok (.iload_n 1, 1) := by decide +kernel
theorem dX0_heardBy_61 : decode cX0_heardBy 61 = .ok (.aaload, 1) := by decide +kernel
theorem dX0_heardBy_62 : decode cX0_heardBy 62 = .ok (.lload_n 2, 1) := by decide +kernel
theorem dX0_heardBy_63 : decode cX0_heardBy 63 = .ok (.invokevirtual 177, 3) := by decide +kernel
theorem dX0_heardBy_66 : decode cX0_heardBy 66 = .ok (.lsub, 1) := by decide +kernel
theorem dX0_heardBy_67 : decode cX0_heardBy 67 = .ok (.lstore 6, 2) := by decide +kernel
theorem dX0_heardBy_69 : decode cX0_heardBy 69 = .ok (.lload 6, 2) := by decide +kernel
theorem dX0_heardBy_71 : decode cX0_heardBy 71 = .ok (.aload_n 0, 1) := by decide +kernel
theorem dX0_heardBy_72 : decode cX0_heardBy 72 = .ok (.getfield 35, 3) := by decide +kernel
theorem dX0_heardBy_75 : decode cX0_heardBy 75 = .ok (.invokevirtual 181, 3) := by decide +kernel
theorem dX0_heardBy_78 : decode cX0_heardBy 78 = .ok (.lsub, 1) := by decide +kernel
theorem dX0_heardBy_79 : decode cX0_heardBy 79 = .ok (.aload_n 0, 1) := by decide +kernel
theorem dX0_heardBy_80 : decode cX0_heardBy 80 = .ok (.getfield 35, 3) := by decide +kernel
theorem dX0_heardBy_83 : decode cX0_heardBy 83 = .ok (.getfield 164, 3) := by decide +kernel
theorem dX0_heardBy_86 : decode cX0_heardBy 86 = .ok (.i2l, 1) := by decide +kernel
theorem dX0_heardBy_87 : decode cX0_heardBy 87 = .ok (.lsub, 1) := by decide +kernel
theorem dX0_heardBy_88 : decode cX0_heardBy 88 = .ok (.l2i, 1) := by decide +kernel
theorem dX0_heardBy_89 : decode cX0_heardBy 89 = .ok (.ireturn, 1) := by decide +kernel
theorem dX0_changeLimit_0 : decode cX0_changeLimit 0 = .ok (.aload_n 0, 1) := by decide +kernel
theorem dX0_changeLimit_1 : decode cX0_changeLimit 1 = .ok (.iload_n 1, 1) := by decide +kernel
theorem dX0_changeLimit_2 : decode cX0_changeLimit 2 = .ok (.putfield 185, 3) := by decide +kernel
theorem dX0_changeLimit_5 : decode cX0_changeLimit 5 = .ok (.iconst 0, 1) := by decide +kernel
theorem dX0_changeLimit_6 : decode cX0_changeLimit 6 = .ok (.istore_n 2, 1) := by decide +kernel
theorem dX0_changeLimit_7 : decode cX0_changeLimit 7 = .ok (.iload_n 2, 1) := by decide +kernel
theorem dX0_changeLimit_8 : decode cX0_changeLimit 8 = .ok (.bipush 7, 2) := by decide +kernel
theorem dX0_changeLimit_10 : decode cX0_changeLimit 10 = .ok (.if_icmp .ge 19, 3) := by decide +kernel
theorem dX0_changeLimit_13 : decode cX0_changeLimit 13 = .ok (.aload_n 0, 1) := by decide +kernel
theorem dX0_changeLimit_14 : decode cX0_changeLimit 14 = .ok (.getfield 19, 3) := by decide +kernel
theorem dX0_changeLimit_17 : decode cX0_changeLimit 17 = .ok (.iload_n 2, 1) := by decide +kernel
theorem dX0_changeLimit_18 : decode cX0_changeLimit 18 = .ok (.aaload, 1) := by decide +kernel
theorem dX0_changeLimit_19 : decode cX0_changeLimit 19 = .ok (.iconst 0, 1) := by decide +kernel
theorem dX0_changeLimit_20 : decode cX0_changeLimit 20 = .ok (.putfield 170, 3) := by decide +kernel
theorem dX0_changeLimit_23 : decode cX0_changeLimit 23 = .ok (.iinc 2 1, 3) := by decide +kernel
theorem dX0_changeLimit_26 : decode cX0_changeLimit 26 = .ok (.goto (-19), 3) := by decide +kernel
theorem dX0_changeLimit_29 : decode cX0_changeLimit 29 = .ok (.return_, 1) := by decide +kernel
set_option maxRecDepth 20000 in
theorem ggX0_isPlaced_X0_linkOf : GoodIn wsX0_isPlaced wsX0_linkOf := goodIn_r _ [7, 8, 9, 10, 11, 12, 13, 14, 15, 16, 17, 18, 19] (by decide +kernel) (by decide +kernel)
set_option maxRecDepth 20000 in
theorem gX0_isPlaced_X0_linkOf : GoodIn wsX0_isPlaced (wsV RX0 136 RX0 yX0_linkOf wsX0_linkOf) := goodIn_app (goodIn_of _ (by decide +kernel)) ggX0_isPlaced_X0_linkOf
theorem dX0_isPlaced_0 : decode cX0_isPlaced 0 = .ok (.iconst 0, 1) := by decide +kernel
theorem dX0_isPlaced_1 : decode cX0_isPlaced 1 = .ok (.istore_n 2, 1) := by decide +kernel
theorem dX0_isPlaced_2 : decode cX0_isPlaced 2 = .ok (.iconst 0, 1) := by decide +kernel
theorem dX0_isPlaced_3 : decode cX0_isPlaced 3 = .ok (.istore_n 3, 1) := by decide +kernel
theorem dX0_isPlaced_4 : decode cX0_isPlaced 4 = .ok (.iload_n 3, 1) := by decide +kernel
theorem dX0_isPlaced_5 : decode cX0_isPlaced 5 = .ok (.aload_n 0, 1) := by decide +kernel
theorem dX0_isPlaced_6 : decode cX0_isPlaced 6 = .ok (.getfield 68, 3) := by decide +kernel
theorem dX0_isPlaced_9 : decode cX0_isPlaced 9 = .ok (.if_icmp .ge 24, 3) := by decide +kernel
theorem dX0_isPlaced_12 : decode cX0_isPlaced 12 = .ok (.aload_n 0, 1) := by decide +kernel
theorem dX0_isPlaced_13 : decode cX0_isPlaced 13 = .ok (.iload_n 1, 1) := by decide +kernel
theorem dX0_isPlaced_14 : decode cX0_isPlaced 14 = .ok (.iload_n 3, 1) := by decide +kernel
theorem dX0_isPlaced_15 : decode cX0_isPlaced 15 = .ok (.invokevirtual 136, 3) := by decide +kernel
theorem dX0_isPlaced_18 : decode cX0_isPlaced 18 = .ok (.getfield 161, 3) := by decide +kernel
theorem dX0_isPlaced_21 : decode cX0_isPlaced 21 = .ok (.ifCond .eq 6, 3) := by decide +kernel
theorem dX0_isPlaced_24 : decode cX0_isPlaced 24 = .ok (.iinc 2 1, 3) := by decide +kernel
theorem dX0_isPlaced_27 : decode cX0_isPlaced 27 = .ok (.iinc 3 1, 3) := by decide +kernel
theorem dX0_isPlaced_30 : decode cX0_isPlaced 30 = .ok (.goto (-26), 3) := by decide +kernel
theorem dX0_isPlaced_33 : decode cX0_isPlaced 33 = .ok (.iload_n 2, 1) := by decide +kernel
theorem dX0_isPlaced_34 : decode cX0_isPlaced 34 = .ok (.iconst 3, 1) := by decide +kernel
theorem dX0_isPlaced_35 : decode cX0_isPlaced 35 = .ok (.if_icmp .lt 7, 3) := by decide +kernel
theorem dX0_isPlaced_38 : decode cX0_isPlaced 38 = .ok (.iconst 1, 1) := by decide +kernel
theorem dX0_isPlaced_39 : decode cX0_isPlaced 39 = .ok (.goto 4, 3) := by decide +kernel
theorem dX0_isPlaced_42 : decode cX0_isPlaced 42 = .ok (.iconst 0, 1) := by decide +kernel
theorem dX0_isPlaced_43 : decode cX0_isPlaced 43 = .ok (.ireturn, 1) := by decide +kernel
set_option maxRecDepth 20000 in
theorem ggX0_placedCount_X0_isPlaced : GoodIn wsX0_placedCount wsX0_isPlaced := goodIn_r _ [6, 1, 7, 8, 9, 10, 5, 11, 12, 13, 14, 15, 16, 17, 18, 19, 20, 21, 22, 23, 24, 25, 26, 27, 28] (by decide +kernel) (by decide +kernel)
set_option maxRecDepth 20000 in
theorem gX0_placedCount_X0_isPlaced : GoodIn wsX0_placedCount (wsV RX0 188 RX0 yX0_isPlaced wsX0_isPlaced) := goodIn_app (goodIn_of _ (by decide +kernel)) ggX0_placedCount_X0_isPlaced
theorem dX0_placedCount_0 : decode cX0_placedCount 0 = .ok (.iconst 0, 1) := by decide +kernel
theorem dX0_placedCount_1 : decode cX0_placedCount 1 = .ok (.istore_n 1, 1) := by decide +kernel
theorem dX0_placedCount_2 : decode cX0_placedCount 2 = .ok (.iconst 0, 1) := by decide +kernel
theorem dX0_placedCount_3 : decode cX0_placedCount 3 = .ok (.istore_n 2, 1) := by decide +kernel
theorem dX0_placedCount_4 : decode cX0_placedCount 4 = .ok (.iload_n 2, 1) := by decide +kernel
theorem dX0_placedCount_5 : decode cX0_placedCount 5 = .ok (.aload_n 0, 1) := by decide +kernel
theorem dX0_placedCount_6 : decode cX0_placedCount 6 = .ok (.getfield 68, 3) := by decide +kernel
theorem dX0_placedCount_9 : decode cX0_placedCount 9 = .ok (.if_icmp .ge 20, 3) := by decide +kernel
theorem dX0_placedCount_12 : decode cX0_placedCount 12 = .ok (.aload_n 0, 1) := by decide +kernel
theorem dX0_placedCount_13 : decode cX0_placedCount 13 = .ok (.iload_n 2, 1) := by decide +kernel
theorem dX0_placedCount_14 : decode cX0_placedCount 14 = .ok (.invokevirtual 188, 3) := by decide +kernel
theorem dX0_placedCount_17 : decode cX0_placedCount 17 = .ok (.ifCond .eq 6, 3) := by decide +kernel
theorem dX0_placedCount_20 : decode cX0_placedCount 20 = .ok (.iinc 1 1, 3) := by decide +kernel
theorem dX0_placedCount_23 : decode cX0_placedCount 23 = .ok (.iinc 2 1, 3) := by decide +kernel
theorem dX0_placedCount_26 : decode cX0_placedCount 26 = .ok (.goto (-22), 3) := by decide +kernel
theorem dX0_placedCount_29 : decode cX0_placedCount 29 = .ok (.iload_n 1, 1) := by decide +kernel
theorem dX0_placedCount_30 : decode cX0_placedCount 30 = .ok (.ireturn, 1) := by decide +kernel
set_option maxRecDepth 20000 in
theorem ggX0_fittingOf_X1_clear : GoodIn wsX0_fittingOf wsX1_clear := goodIn_r _ [12, 13, 51, 52, 53, 54, 55, 56] (by decide +kernel) (by decide +kernel)
set_option maxRecDepth 20000 in
theorem gX0_fittingOf_X1_clear : GoodIn wsX0_fittingOf (wsV RX0 191 RX1 yX1_clear wsX1_clear) := goodIn_app (goodIn_of _ (by decide +kernel)) ggX0_fittingOf_X1_clear
set_option maxRecDepth 20000 in
theorem ggX0_fittingOf_X0_linkOf : GoodIn wsX0_fittingOf wsX0_linkOf := goodIn_r _ [18, 19, 27, 28, 29, 30, 31, 32, 33, 34, 35, 36, 37] (by decide +kernel) (by decide +kernel)
set_option maxRecDepth 20000 in
theorem gX0_fittingOf_X0_linkOf : GoodIn wsX0_fittingOf (wsV RX0 136 RX0 yX0_linkOf wsX0_linkOf) := goodIn_app (goodIn_of _ (by decide +kernel)) ggX0_fittingOf_X0_linkOf
set_option maxRecDepth 20000 in
theorem ggX0_fittingOf_X1_add : GoodIn wsX0_fittingOf wsX1_add := goodIn_r _ [23, 24, 25, 26, 13, 51, 52, 53, 54, 55, 56] (by decide +kernel) (by decide +kernel)
set_option maxRecDepth 20000 in
theorem gX0_fittingOf_X1_add : GoodIn wsX0_fittingOf (wsV RX0 192 RX1 yX1_add wsX1_add) := goodIn_app (goodIn_of _ (by decide +kernel)) ggX0_fittingOf_X1_add
theorem dX0_fittingOf_0 : decode cX0_fittingOf 0 = .ok (.aload_n 0, 1) := by decide +kernel
theorem dX0_fittingOf_1 : decode cX0_fittingOf 1 = .ok (.getfield 58, 3) := by decide +kernel
theorem dX0_fittingOf_4 : decode cX0_fittingOf 4 = .ok (.invokevirtual 191, 3) := by decide +kernel
theorem dX0_fittingOf_7 : decode cX0_fittingOf 7 = .ok (.iconst 0, 1) := by decide +kernel
theorem dX0_fittingOf_8 : decode cX0_fittingOf 8 = .ok (.istore_n 2, 1) := by decide +kernel
theorem dX0_fittingOf_9 : decode cX0_fittingOf 9 = .ok (.iload_n 2, 1) := by decide +kernel
theorem dX0_fittingOf_10 : decode cX0_fittingOf 10 = .ok (.aload_n 0, 1) := by decide +kernel
theorem dX0_fittingOf_11 : decode cX0_fittingOf 11 = .ok (.getfield 68, 3) := by decide +kernel
theorem dX0_fittingOf_14 : decode cX0_fittingOf 14 = .ok (.if_icmp .ge 53, 3) := by decide +kernel
theorem dX0_fittingOf_17 : decode cX0_fittingOf 17 = .ok (.aload_n 0, 1) := by decide +kernel
theorem dX0_fittingOf_18 : decode cX0_fittingOf 18 = .ok (.iload_n 1, 1) := by decide +kernel
theorem dX0_fittingOf_19 : decode cX0_fittingOf 19 = .ok (.iload_n 2, 1) := by decide +kernel
theorem dX0_fittingOf_20 : decode cX0_fittingOf 20 = .ok (.invokevirtual 136, 3) := by decide +kernel
theorem dX0_fittingOf_23 : decode cX0_fittingOf 23 = .ok (.astore_n 3, 1) := by decide +kernel
theorem dX0_fittingOf_24 : decode cX0_fittingOf 24 = .ok (.aload_n 3, 1) := by decide +kernel
theorem dX0_fittingOf_25 : decode cX0_fittingOf 25 = .ok (.getfield 161, 3) := by decide +kernel
theorem dX0_fittingOf_28 : decode cX0_fittingOf 28 = .ok (.ifCond .eq 33, 3) := by decide +kernel
theorem dX0_fittingOf_31 : decode cX0_fittingOf 31 = .ok (.aload_n 0, 1) := by decide +kernel
theorem dX0_fittingOf_32 : decode cX0_fittingOf 32 = .ok (.getfield 58, 3) := by decide +kernel
theorem dX0_fittingOf_35 : decode cX0_fittingOf 35 = .ok (.iload_n 2, 1) := by decide +kernel
theorem dX0_fittingOf_36 : decode cX0_fittingOf 36 = .ok (.aload_n 0, 1) := by decide +kernel
theorem dX0_fittingOf_37 : decode cX0_fittingOf 37 = .ok (.getfield 11, 3) := by decide +kernel
theorem dX0_fittingOf_40 : decode cX0_fittingOf 40 = .ok (.iload_n 2, 1) := by decide +kernel
theorem dX0_fittingOf_41 : decode cX0_fittingOf 41 = .ok (.aaload, 1) := by decide +kernel
theorem dX0_fittingOf_42 : decode cX0_fittingOf 42 = .ok (.getfield 120, 3) := by decide +kernel
theorem dX0_fittingOf_45 : decode cX0_fittingOf 45 = .ok (.aload_n 0, 1) := by decide +kernel
theorem dX0_fittingOf_46 : decode cX0_fittingOf 46 = .ok (.getfield 11, 3) := by decide +kernel
theorem dX0_fittingOf_49 : decode cX0_fittingOf 49 = .ok (.iload_n 2, 1) := by decide +kernel
theorem dX0_fittingOf_50 : decode cX0_fittingOf 50 = .ok (.aaload, 1) := by decide +kernel
theorem dX0_fittingOf_51 : decode cX0_fittingOf 51 = .ok (.getfield 123, 3) := by decide +kernel
theorem dX0_fittingOf_54 : decode cX0_fittingOf 54 = .ok (.aload_n 3, 1) := by decide +kernel
theorem dX0_fittingOf_55 : decode cX0_fittingOf 55 = .ok (.getfield 167, 3) := by decide +kernel
theorem dX0_fittingOf_58 : decode cX0_fittingOf 58 = .ok (.invokevirtual 192, 3) := by decide +kernel
theorem dX0_fittingOf_61 : decode cX0_fittingOf 61 = .ok (.iinc 2 1, 3) := by decide +kernel
theorem dX0_fittingOf_64 : decode cX0_fittingOf 64 = .ok (.goto (-55), 3) := by decide +kernel
theorem dX0_fittingOf_67 : decode cX0_fittingOf 67 = .ok (.aload_n 0, 1) := by decide +kernel
theorem dX0_fittingOf_68 : decode cX0_fittingOf 68 = .ok (.getfield 58, 3) := by decide +kernel
theorem dX0_fittingOf_71 : decode cX0_fittingOf 71 = .ok (.areturn, 1) := by decide +kernel
set_option maxRecDepth 20000 in
theorem ggX0_placingOf_X0_fittingOf : GoodIn wsX0_placingOf wsX0_fittingOf := goodIn_r _ [8, 9, 10, 11, 12, 13, 14, 15, 16, 17, 18, 19, 20, 21, 22, 23, 24, 7, 25, 26, 27, 28, 29, 30, 31, 32, 33, 83, 84, 85, 86, 87, 88, 89, 90, 91, 92, 93, 100, 101, 102, 103, 104, 105, 106, 107, 108, 109, 110, 111, 112, 113, 114, 115, 116, 117, 118] (by decide +kernel) (by decide +kernel)
set_option maxRecDepth 20000 in
theorem gX0_placingOf_X0_fittingOf : GoodIn wsX0_placingOf (wsV RX0 196 RX0 yX0_fittingOf wsX0_fittingOf) := goodIn_app (goodIn_of _ (by decide +kernel)) ggX0_placingOf_X0_fittingOf
set_option maxRecDepth 20000 in
theorem ggX0_placingOf_X1_settle : GoodIn wsX0_placingOf wsX1_settle := goodIn_r _ [37, 21, 38, 39, 40, 41, 42, 43, 44, 45, 46, 19, 47, 48, 49, 50, 51, 52, 53, 54, 55, 33, 56, 31, 32, 57, 58, 59, 60, 61, 62, 63, 64, 65, 66, 67, 68, 69, 70, 71, 72, 73, 74, 75, 76, 77, 78, 79, 80, 81, 82, 113, 114, 115, 116, 117, 118, 94, 95, 96, 97, 98, 99, 119] (by decide +kernel) (by decide +kernel)
set_option maxRecDepth 20000 in
theorem gX0_placingOf_X1_settle : GoodIn wsX0_placingOf (wsV RX0 200 RX1 yX1_settle wsX1_settle) := goodIn_app (goodIn_of _ (by decide +kernel)) ggX0_placingOf_X1_settle
theorem dX0_placingOf_0 : decode cX0_placingOf 0 = .ok (.aload_n 0, 1) := by decide +kernel
theorem dX0_placingOf_1 : decode cX0_placingOf 1 = .ok (.getfield 19, 3) := by decide +kernel
theorem dX0_placingOf_4 : decode cX0_placingOf 4 = .ok (.iload_n 1, 1) := by decide +kernel
theorem dX0_placingOf_5 : decode cX0_placingOf 5 = .ok (.aaload, 1) := by decide +kernel
theorem dX0_placingOf_6 : decode cX0_placingOf 6 = .ok (.astore_n 2, 1) := by decide +kernel
theorem dX0_placingOf_7 : decode cX0_placingOf 7 = .ok (.aload_n 2, 1) := by decide +kernel
theorem dX0_placingOf_8 : decode cX0_placingOf 8 = .ok (.getfield 170, 3) := by decide +kernel
theorem dX0_placingOf_11 : decode cX0_placingOf 11 = .ok (.ifCond .ne 21, 3) := by decide +kernel
theorem dX0_placingOf_14 : decode cX0_placingOf 14 = .ok (.aload_n 0, 1) := by decide +kernel
theorem dX0_placingOf_15 : decode cX0_placingOf 15 = .ok (.iload_n 1, 1) := by decide +kernel
theorem dX0_placingOf_16 : decode cX0_placingOf 16 = .ok (.invokevirtual 196, 3) := by decide +kernel
theorem dX0_placingOf_19 : decode cX0_placingOf 19 = .ok (.aload_n 0, 1) := by decide +kernel
theorem dX0_placingOf_20 : decode cX0_placingOf 20 = .ok (.getfield 185, 3) := by decide +kernel
theorem dX0_placingOf_23 : decode cX0_placingOf 23 = .ok (.aload_n 2, 1) := by decide +kernel
theorem dX0_placingOf_24 : decode cX0_placingOf 24 = .ok (.invokevirtual 200, 3) := by decide +kernel
theorem dX0_placingOf_27 : decode cX0_placingOf 27 = .ok (.aload_n 2, 1) := by decide +kernel
theorem dX0_placingOf_28 : decode cX0_placingOf 28 = .ok (.iconst 1, 1) := by decide +kernel
theorem dX0_placingOf_29 : decode cX0_placingOf 29 = .ok (.putfield 170, 3) := by decide +kernel
theorem dX0_placingOf_32 : decode cX0_placingOf 32 = .ok (.aload_n 2, 1) := by decide +kernel
theorem dX0_placingOf_33 : decode cX0_placingOf 33 = .ok (.areturn, 1) := by decide +kernel
set_option maxRecDepth 20000 in
theorem ggX0_dealSlots_X9_clear : GoodIn wsX0_dealSlots wsX9_clear := goodIn_r _ [9, 10, 11, 12, 13, 14, 46] (by decide +kernel) (by decide +kernel)
set_option maxRecDepth 20000 in
theorem gX0_dealSlots_X9_clear : GoodIn wsX0_dealSlots (wsV RX0 103 RX9 yX9_clear wsX9_clear) := goodIn_app (goodIn_of _ (by decide +kernel)) ggX0_dealSlots_X9_clear
set_option maxRecDepth 20000 in
theorem ggX0_dealSlots_X9_give : GoodIn wsX0_dealSlots wsX9_give := goodIn_r _ [18, 10, 19, 20, 21, 22, 23, 24, 25, 8, 26, 46] (by decide +kernel) (by decide +kernel)
set_option maxRecDepth 20000 in
theorem gX0_dealSlots_X9_give : GoodIn wsX0_dealSlots (wsV RX0 207 RX9 yX9_give wsX9_give) := goodIn_app (goodIn_of _ (by decide +kernel)) ggX0_dealSlots_X9_give
theorem dX0_dealSlots_0 : decode cX0_dealSlots 0 = .ok (.aload_n 0, 1) := by decide +kernel
theorem dX0_dealSlots_1 : decode cX0_dealSlots 1 = .ok (.getfield 42, 3) := by decide +kernel
theorem dX0_dealSlots_4 : decode cX0_dealSlots 4 = .ok (.invokevirtual 103, 3) := by decide +kernel
theorem dX0_dealSlots_7 : decode cX0_dealSlots 7 = .ok (.iconst 0, 1) := by decide +kernel
theorem dX0_dealSlots_8 : decode cX0_dealSlots 8 = .ok (.istore_n 1, 1) := by decide +kernel
theorem dX0_dealSlots_9 : decode cX0_dealSlots 9 = .ok (.iconst 1, 1) := by decide +kernel
theorem dX0_dealSlots_10 : decode cX0_dealSlots 10 = .ok (.istore_n 2, 1) := by decide +kernel
theorem dX0_dealSlots_11 : decode cX0_dealSlots 11 = .ok (.iload_n 2, 1) := by decide +kernel
theorem dX0_dealSlots_12 : decode cX0_dealSlots 12 = .ok (.bipush 16, 2) := by decide +kernel
theorem dX0_dealSlots_14 : decode cX0_dealSlots 14 = .ok (.if_icmp .gt 54, 3) := by decide +kernel
theorem dX0_dealSlots_17 : decode cX0_dealSlots 17 = .ok (.iconst 0, 1) := by decide +kernel
theorem dX0_dealSlots_18 : decode cX0_dealSlots 18 = .ok (.istore_n 3, 1) := by decide +kernel
theorem dX0_dealSlots_19 : decode cX0_dealSlots 19 = .ok (.iload_n 3, 1) := by decide +kernel
theorem dX0_dealSlots_20 : decode cX0_dealSlots 20 = .ok (.aload_n 0, 1) := by decide +kernel
theorem dX0_dealSlots_21 : decode cX0_dealSlots 21 = .ok (.getfield 68, 3) := by decide +kernel
theorem dX0_dealSlots_24 : decode cX0_dealSlots 24 = .ok (.if_icmp .ge 37, 3) := by decide +kernel
theorem dX0_dealSlots_27 : decode cX0_dealSlots 27 = .ok (.aload_n 0, 1) := by decide +kernel
theorem dX0_dealSlots_28 : decode cX0_dealSlots 28 = .ok (.getfield 11, 3) := by decide +kernel
theorem dX0_dealSlots_31 : decode cX0_dealSlots 31 = .ok (.iload_n 3, 1) := by decide +kernel
theorem dX0_dealSlots_32 : decode cX0_dealSlots 32 = .ok (.aaload, 1) := by decide +kernel
theorem dX0_dealSlots_33 : decode cX0_dealSlots 33 = .ok (.getfield 204, 3) := by decide +kernel
theorem dX0_dealSlots_36 : decode cX0_dealSlots 36 = .ok (.iload_n 2, 1) := by decide +kernel
theorem dX0_dealSlots_37 : decode cX0_dealSlots 37 = .ok (.if_icmp .ne 18, 3) := by decide +kernel
theorem dX0_dealSlots_40 : decode cX0_dealSlots 40 = .ok (.aload_n 0, 1) := by decide +kernel
theorem dX0_dealSlots_41 : decode cX0_dealSlots 41 = .ok (.getfield 42, 3) := by decide +kernel
theorem dX0_dealSlots_44 : decode cX0_dealSlots 44 = .ok (.iload_n 3, 1) := by decide +kernel
theorem dX0_dealSlots_45 : decode cX0_dealSlots 45 = .ok (.iload_n 2, 1) := by decide +kernel
theorem dX0_dealSlots_46 : decode cX0_dealSlots 46 = .ok (.invokevirtual 207, 3) := by decide +kernel
theorem dX0_dealSlots_49 : decode cX0_dealSlots 49 = .ok (.ifCond .eq 6, 3) := by decide +kernel
theorem dX0_dealSlots_52 : decode cX0_dealSlots 52 = .ok (.iinc 1 1, 3) := by decide +kernel
theorem dX0_dealSlots_55 : decode cX0_dealSlots 55 = .ok (.iinc 3 1, 3) := by decide +kernel
theorem dX0_dealSlots_58 : decode cX0_dealSlots 58 = .ok (.goto (-39), 3) := by decide +kernel
theorem dX0_dealSlots_61 : decode cX0_dealSlots 61 = .ok (.iload_n 2, 1) := by decide +kernel
theorem dX0_dealSlots_62 : decode cX0_dealSlots 62 = .ok (.iconst 2, 1) := by decide +kernel
theorem dX0_dealSlots_63 : decode cX0_dealSlots 63 = .ok (.imul, 1) := by decide +kernel
theorem dX0_dealSlots_64 : decode cX0_dealSlots 64 = .ok (.istore_n 2, 1) := by decide +kernel
theorem dX0_dealSlots_65 : decode cX0_dealSlots 65 = .ok (.goto (-54), 3) := by decide +kernel
theorem dX0_dealSlots_68 : decode cX0_dealSlots 68 = .ok (.iload_n 1, 1) := by decide +kernel
theorem dX0_dealSlots_69 : decode cX0_dealSlots 69 = .ok (.ireturn, 1) := by decide +kernel
theorem dX1_init_0 : decode cX1_init 0 = .ok (.aload_n 0, 1) := by decide +kernel
theorem dX1_init_1 : decode cX1_init 1 = .ok (.invokespecial 3, 3) := by decide +kernel
theorem dX1_init_4 : decode cX1_init 4 = .ok (.aload_n 0, 1) := by decide +kernel
theorem dX1_init_5 : decode cX1_init 5 = .ok (.aload_n 1, 1) := by decide +kernel
theorem dX1_init_6 : decode cX1_init 6 = .ok (.putfield 9, 3) := by decide +kernel
theorem dX1_init_9 : decode cX1_init 9 = .ok (.aload_n 0, 1) := by decide +kernel
theorem dX1_init_10 : decode cX1_init 10 = .ok (.bipush 7, 2) := by decide +kernel
theorem dX1_init_12 : decode cX1_init 12 = .ok (.newarray .int, 2) := by decide +kernel
theorem dX1_init_14 : decode cX1_init 14 = .ok (.putfield 15, 3) := by decide +kernel
theorem dX1_init_17 : decode cX1_init 17 = .ok (.aload_n 0, 1) := by decide +kernel
theorem dX1_init_18 : decode cX1_init 18 = .ok (.bipush 7, 2) := by decide +kernel
theorem dX1_init_20 : decode cX1_init 20 = .ok (.newarray .int, 2) := by decide +kernel
theorem dX1_init_22 : decode cX1_init 22 = .ok (.putfield 19, 3) := by decide +kernel
theorem dX1_init_25 : decode cX1_init 25 = .ok (.aload_n 0, 1) := by decide +kernel
theorem dX1_init_26 : decode cX1_init 26 = .ok (.bipush 7, 2) := by decide +kernel
theorem dX1_init_28 : decode cX1_init 28 = .ok (.newarray .int, 2) := by decide +kernel
theorem dX1_init_30 : decode cX1_init 30 = .ok (.putfield 22, 3) := by decide +kernel
theorem dX1_init_33 : decode cX1_init 33 = .ok (.aload_n 0, 1) := by decide +kernel
theorem dX1_init_34 : decode cX1_init 34 = .ok (.sipush 1024, 3) := by decide +kernel
theorem dX1_init_37 : decode cX1_init 37 = .ok (.newarray .int, 2) := by decide +kernel
theorem dX1_init_39 : decode cX1_init 39 = .ok (.putfield 25, 3) := by decide +kernel
theorem dX1_init_42 : decode cX1_init 42 = .ok (.return_, 1) := by decide +kernel
theorem dX1_clear_0 : decode cX1_clear 0 = .ok (.aload_n 0, 1) := by decide +kernel
theorem dX1_clear_1 : decode cX1_clear 1 = .ok (.iconst 0, 1) := by decide +kernel
theorem dX1_clear_2 : decode cX1_clear 2 = .ok (.putfield 28, 3) := by decide +kernel
theorem dX1_clear_5 : decode cX1_clear 5 = .ok (.return_, 1) := by decide +kernel
theorem dX1_add_0 : decode cX1_add 0 = .ok (.iload_n 1, 1) := by decide +kernel
theorem dX1_add_1 : decode cX1_add 1 = .ok (.ifCond .lt 43, 3) := by decide +kernel
theorem dX1_add_4 : decode cX1_add 4 = .ok (.iload_n 1, 1) := by decide +kernel
theorem dX1_add_5 : decode cX1_add 5 = .ok (.bipush 7, 2) := by decide +kernel
theorem dX1_add_7 : decode cX1_add 7 = .ok (.if_icmp .ge 37, 3) := by decide +kernel
theorem dX1_add_10 : decode cX1_add 10 = .ok (.aload_n 0, 1) := by decide +kernel
theorem dX1_add_11 : decode cX1_add 11 = .ok (.getfield 15, 3) := by decide +kernel
theorem dX1_add_14 : decode cX1_add 14 = .ok (.iload_n 1, 1) := by decide +kernel
theorem dX1_add_15 : decode cX1_add 15 = .ok (.iload_n 2, 1) := by decide +kernel
theorem dX1_add_16 : decode cX1_add 16 = .ok (.iastore, 1) := by decide +kernel
theorem dX1_add_17 : decode cX1_add 17 = .ok (.aload_n 0, 1) := by decide +kernel
theorem dX1_add_18 : decode cX1_add 18 = .ok (.getfield 19, 3) := by decide +kernel
theorem dX1_add_21 : decode cX1_add 21 = .ok (.iload_n 1, 1) := by decide +kernel
theorem dX1_add_22 : decode cX1_add 22 = .ok (.iload_n 3, 1) := by decide +kernel
theorem dX1_add_23 : decode cX1_add 23 = .ok (.iastore, 1) := by decide +kernel
theorem dX1_add_24 : decode cX1_add 24 = .ok (.aload_n 0, 1) := by decide +kernel
theorem dX1_add_25 : decode cX1_add 25 = .ok (.getfield 22, 3) := by decide +kernel
theorem dX1_add_28 : decode cX1_add 28 = .ok (.iload_n 1, 1) := by decide +kernel
theorem dX1_add_29 : decode cX1_add 29 = .ok (.iload 4, 2) := by decide +kernel
theorem dX1_add_31 : decode cX1_add 31 = .ok (.iastore, 1) := by decide +kernel
theorem dX1_add_32 : decode cX1_add 32 = .ok (.aload_n 0, 1) := by decide +kernel
theorem dX1_add_33 : decode cX1_add 33 = .ok (.dup, 1) := by decide +kernel
theorem dX1_add_34 : decode cX1_add 34 = .ok (.getfield 28, 3) := by decide +kernel
theorem dX1_add_37 : decode cX1_add 37 = .ok (.iconst 1, 1) := by decide +kernel
theorem dX1_add_38 : decode cX1_add 38 = .ok (.iload_n 1, 1) := by decide +kernel
theorem dX1_add_39 : decode cX1_add 39 = .ok (.ishl, 1) := by decide +kernel
theorem dX1_add_40 : decode cX1_add 40 = .ok (.ior, 1) := by decide +kernel
theorem dX1_add_41 : decode cX1_add 41 = .ok (.putfield 28, 3) := by decide +kernel
theorem dX1_add_44 : decode cX1_add 44 = .ok (.return_, 1) := by decide +kernel
theorem dX1_asks_0 : decode cX1_asks 0 = .ok (.aload_n 0, 1) := by decide +kernel
theorem dX1_asks_1 : decode cX1_asks 1 = .ok (.getfield 28, 3) := by decide +kernel
theorem dX1_asks_4 : decode cX1_asks 4 = .ok (.iload_n 1, 1) := by decide +kernel
theorem dX1_asks_5 : decode cX1_asks 5 = .ok (.ishr, 1) := by decide +kernel
theorem dX1_asks_6 : decode cX1_asks 6 = .ok (.iconst 1, 1) := by decide +kernel
theorem dX1_asks_7 : decode cX1_asks 7 = .ok (.iand, 1) := by decide +kernel
theorem dX1_asks_8 : decode cX1_asks 8 = .ok (.iconst 1, 1) := by decide +kernel
theorem dX1_asks_9 : decode cX1_asks 9 = .ok (.if_icmp .ne 7, 3) := by decide +kernel
theorem dX1_asks_12 : decode cX1_asks 12 = .ok (.iconst 1, 1) := by decide +kernel
theorem dX1_asks_13 : decode cX1_asks 13 = .ok (.goto 4, 3) := by decide +kernel
theorem dX1_asks_16 : decode cX1_asks 16 = .ok (.iconst 0, 1) := by decide +kernel
theorem dX1_asks_17 : decode cX1_asks 17 = .ok (.ireturn, 1) := by decide +kernel
set_option maxRecDepth 20000 in
theorem ggX1_misfitAt_X1_asks : GoodIn wsX1_misfitAt wsX1_asks := goodIn_r _ [5, 6, 21, 22, 23, 24, 25, 26] (by decide +kernel) (by decide +kernel)
set_option maxRecDepth 20000 in
theorem gX1_misfitAt_X1_asks : GoodIn wsX1_misfitAt (wsV RX1 32 RX1 yX1_asks wsX1_asks) := goodIn_app (goodIn_of _ (by decide +kernel)) ggX1_misfitAt_X1_asks
set_option maxRecDepth 20000 in
theorem ggX1_misfitAt_X1_misfitBy : GoodIn wsX1_misfitAt wsX1_misfitBy := goodIn_r _ [10, 11, 12, 13, 14, 15, 16, 17, 18, 19, 20, 21, 22, 23, 24, 25, 26, 27] (by decide +kernel) (by decide +kernel)
set_option maxRecDepth 20000 in
theorem gX1_misfitAt_X1_misfitBy : GoodIn wsX1_misfitAt (wsV RX1 36 RX1 yX1_misfitBy wsX1_misfitBy) := goodIn_app (goodIn_of _ (by decide +kernel)) ggX1_misfitAt_X1_misfitBy
theorem dX1_misfitAt_0 : decode cX1_misfitAt 0 = .ok (.iconst 0, 1) := by decide +kernel
theorem dX1_misfitAt_1 : decode cX1_misfitAt 1 = .ok (.istore_n 3, 1) := by decide +kernel
theorem dX1_misfitAt_2 : decode cX1_misfitAt 2 = .ok (.iconst 0, 1) := by decide +kernel
theorem dX1_misfitAt_3 : decode cX1_misfitAt 3 = .ok (.istore 4, 2) := by decide +kernel
theorem dX1_misfitAt_5 : decode cX1_misfitAt 5 = .ok (.iload 4, 2) := by decide +kernel
theorem dX1_misfitAt_7 : decode cX1_misfitAt 7 = .ok (.bipush 7, 2) := by decide +kernel
theorem dX1_misfitAt_9 : decode cX1_misfitAt 9 = .ok (.if_icmp .ge 29, 3) := by decide +kernel
theorem dX1_misfitAt_12 : decode cX1_misfitAt 12 = .ok (.aload_n 0, 1) := by decide +kernel
theorem dX1_misfitAt_13 : decode cX1_misfitAt 13 = .ok (.iload 4, 2) := by decide +kernel
theorem dX1_misfitAt_15 : decode cX1_misfitAt 15 = .ok (.invokevirtual 32, 3) := by decide +kernel
theorem dX1_misfitAt_18 : decode cX1_misfitAt 18 = .ok (.ifCond .eq 14, 3) := by decide +kernel
theorem dX1_misfitAt_21 : decode cX1_misfitAt 21 = .ok (.iload_n 3, 1) := by decide +kernel
theorem dX1_misfitAt_22 : decode cX1_misfitAt 22 = .ok (.aload_n 0, 1) := by decide +kernel
theorem dX1_misfitAt_23 : decode cX1_misfitAt 23 = .ok (.iload 4, 2) := by decide +kernel
theorem dX1_misfitAt_25 : decode cX1_misfitAt 25 = .ok (.iload_n 1, 1) := by decide +kernel
theorem dX1_misfitAt_26 : decode cX1_misfitAt 26 = .ok (.iload_n 2, 1) := by decide +kernel
theorem dX1_misfitAt_27 : decode cX1_misfitAt 27 = .ok (.invokevirtual 36, 3) := by decide +kernel
theorem dX1_misfitAt_30 : decode cX1_misfitAt 30 = .ok (.iadd, 1) := by decide +kernel
theorem dX1_misfitAt_31 : decode cX1_misfitAt 31 = .ok (.istore_n 3, 1) := by decide +kernel
theorem dX1_misfitAt_32 : decode cX1_misfitAt 32 = .ok (.iinc 4 1, 3) := by decide +kernel
theorem dX1_misfitAt_35 : decode cX1_misfitAt 35 = .ok (.goto (-30), 3) := by decide +kernel
theorem dX1_misfitAt_38 : decode cX1_misfitAt 38 = .ok (.iload_n 3, 1) := by decide +kernel
theorem dX1_misfitAt_39 : decode cX1_misfitAt 39 = .ok (.ireturn, 1) := by decide +kernel
set_option maxRecDepth 20000 in
theorem ggX1_misfitBy_X2_over : GoodIn wsX1_misfitBy wsX2_over := goodIn_r _ [9, 10, 17] (by decide +kernel) (by decide +kernel)
set_option maxRecDepth 20000 in
theorem gX1_misfitBy_X2_over : GoodIn wsX1_misfitBy (wsV RX1 40 RX2 yX2_over wsX2_over) := goodIn_app (goodIn_of _ (by decide +kernel)) ggX1_misfitBy_X2_over
theorem dX1_misfitBy_0 : decode cX1_misfitBy 0 = .ok (.aload_n 0, 1) := by decide +kernel
theorem dX1_misfitBy_1 : decode cX1_misfitBy 1 = .ok (.getfield 22, 3) := by decide +kernel
theorem dX1_misfitBy_4 : decode cX1_misfitBy 4 = .ok (.iload_n 1, 1) := by decide +kernel
theorem dX1_misfitBy_5 : decode cX1_misfitBy 5 = .ok (.iaload, 1) := by decide +kernel
theorem dX1_misfitBy_6 : decode cX1_misfitBy 6 = .ok (.aload_n 0, 1) := by decide +kernel
theorem dX1_misfitBy_7 : decode cX1_misfitBy 7 = .ok (.getfield 9, 3) := by decide +kernel
theorem dX1_misfitBy_10 : decode cX1_misfitBy 10 = .ok (.aload_n 0, 1) := by decide +kernel
theorem dX1_misfitBy_11 : decode cX1_misfitBy 11 = .ok (.getfield 15, 3) := by decide +kernel
theorem dX1_misfitBy_14 : decode cX1_misfitBy 14 = .ok (.iload_n 1, 1) := by decide +kernel
theorem dX1_misfitBy_15 : decode cX1_misfitBy 15 = .ok (.iaload, 1) := by decide +kernel
theorem dX1_misfitBy_16 : decode cX1_misfitBy 16 = .ok (.iload_n 2, 1) := by decide +kernel
theorem dX1_misfitBy_17 : decode cX1_misfitBy 17 = .ok (.isub, 1) := by decide +kernel
theorem dX1_misfitBy_18 : decode cX1_misfitBy 18 = .ok (.aload_n 0, 1) := by decide +kernel
theorem dX1_misfitBy_19 : decode cX1_misfitBy 19 = .ok (.getfield 19, 3) := by decide +kernel
theorem dX1_misfitBy_22 : decode cX1_misfitBy 22 = .ok (.iload_n 1, 1) := by decide +kernel
theorem dX1_misfitBy_23 : decode cX1_misfitBy 23 = .ok (.iaload, 1) := by decide +kernel
theorem dX1_misfitBy_24 : decode cX1_misfitBy 24 = .ok (.iload_n 3, 1) := by decide +kernel
theorem dX1_misfitBy_25 : decode cX1_misfitBy 25 = .ok (.isub, 1) := by decide +kernel
theorem dX1_misfitBy_26 : decode cX1_misfitBy 26 = .ok (.invokevirtual 40, 3) := by decide +kernel
theorem dX1_misfitBy_29 : decode cX1_misfitBy 29 = .ok (.isub, 1) := by decide +kernel
theorem dX1_misfitBy_30 : decode cX1_misfitBy 30 = .ok (.istore 4, 2) := by decide +kernel
theorem dX1_misfitBy_32 : decode cX1_misfitBy 32 = .ok (.iload 4, 2) := by decide +kernel
theorem dX1_misfitBy_34 : decode cX1_misfitBy 34 = .ok (.iload 4, 2) := by decide +kernel
theorem dX1_misfitBy_36 : decode cX1_misfitBy 36 = .ok (.imul, 1) := by decide +kernel
theorem dX1_misfitBy_37 : decode cX1_misfitBy 37 = .ok (.ireturn, 1) := by decide +kernel
set_option maxRecDepth 20000 in
theorem ggX1_settle_X1_misfitAt : GoodIn wsX1_settle wsX1_misfitAt := goodIn_r _ [12, 13, 14, 15, 11, 16, 1, 17, 18, 19, 20, 21, 22, 23, 24, 25, 26, 27, 28, 29, 30, 51, 52, 53, 54, 55, 56, 63] (by decide +kernel) (by decide +kernel)
set_option maxRecDepth 20000 in
theorem gX1_settle_X1_misfitAt : GoodIn wsX1_settle (wsV RX1 46 RX1 yX1_misfitAt wsX1_misfitAt) := goodIn_app (goodIn_of _ (by decide +kernel)) ggX1_settle_X1_misfitAt
set_option maxRecDepth 20000 in
theorem ggX1_settle_X1_leastPlace : GoodIn wsX1_settle wsX1_leastPlace := goodIn_r _ [34, 2, 51, 52, 53, 54, 55, 56] (by decide +kernel) (by decide +kernel)
set_option maxRecDepth 20000 in
theorem gX1_settle_X1_leastPlace : GoodIn wsX1_settle (wsV RX1 49 RX1 yX1_leastPlace wsX1_leastPlace) := goodIn_app (goodIn_of _ (by decide +kernel)) ggX1_settle_X1_leastPlace
set_option maxRecDepth 20000 in
theorem ggX1_settle_J6_bitCount_0f7a4 : GoodIn wsX1_settle wsJ6_bitCount_0f7a4 := goodIn_r _ [38, 39, 40, 41] (by decide +kernel) (by decide +kernel)
set_option maxRecDepth 20000 in
theorem gX1_settle_J6_bitCount_0f7a4 : GoodIn wsX1_settle (va_wsS RX1 53 yJ6_bitCount_0f7a4 wsJ6_bitCount_0f7a4) := goodIn_app (goodIn_of _ (by decide +kernel)) ggX1_settle_J6_bitCount_0f7a4
set_option maxRecDepth 20000 in
theorem ggX1_settle_X1_worstFitting : GoodIn wsX1_settle wsX1_worstFitting := goodIn_r _ [45, 46, 2, 13, 14, 15, 11, 16, 1, 17, 18, 19, 20, 21, 22, 23, 24, 25, 26, 27, 28, 29, 30, 51, 52, 53, 54, 55, 56, 63] (by decide +kernel) (by decide +kernel)
set_option maxRecDepth 20000 in
theorem gX1_settle_X1_worstFitting : GoodIn wsX1_settle (wsV RX1 59 RX1 yX1_worstFitting wsX1_worstFitting) := goodIn_app (goodIn_of _ (by decide +kernel)) ggX1_settle_X1_worstFitting
set_option maxRecDepth 20000 in
theorem ggX1_settle_X1_leaveOut : GoodIn wsX1_settle wsX1_leaveOut := goodIn_r _ [50, 1, 2, 17, 18, 19, 11, 20, 21, 22, 23, 24, 25, 26, 27, 28, 29, 30, 51, 52, 53, 54, 55, 56, 63] (by decide +kernel) (by decide +kernel)
set_option maxRecDepth 20000 in
theorem gX1_settle_X1_leaveOut : GoodIn wsX1_settle (wsV RX1 62 RX1 yX1_leaveOut wsX1_leaveOut) := goodIn_app (goodIn_of _ (by decide +kernel)) ggX1_settle_X1_leaveOut
theorem dX1_settle_0 : decode cX1_settle 0 = .ok (.aload_n 0, 1) := by decide +kernel
theorem dX1_settle_1 : decode cX1_settle 1 = .ok (.getfield 28, 3) := by decide +kernel
theorem dX1_settle_4 : decode cX1_settle 4 = .ok (.istore_n 3, 1) := by decide +kernel
theorem dX1_settle_5 : decode cX1_settle 5 = .ok (.iconst 0, 1) := by decide +kernel
theorem dX1_settle_6 : decode cX1_settle 6 = .ok (.istore 4, 2) := by decide +kernel
theorem dX1_settle_8 : decode cX1_settle 8 = .ok (.iload 4, 2) := by decide +kernel
theorem dX1_settle_10 : decode cX1_settle 10 = .ok (.aload_n 0, 1) := by decide +kernel
theorem dX1_settle_11 : decode cX1_settle 11 = .ok (.getfield 25, 3) := by decide +kernel
theorem dX1_settle_14 : decode cX1_settle 14 = .ok (.arraylength, 1) := by decide +kernel
theorem dX1_settle_15 : decode cX1_settle 15 = .ok (.if_icmp .ge 30, 3) := by decide +kernel
theorem dX1_settle_18 : decode cX1_settle 18 = .ok (.aload_n 0, 1) := by decide +kernel
theorem dX1_settle_19 : decode cX1_settle 19 = .ok (.getfield 25, 3) := by decide +kernel
theorem dX1_settle_22 : decode cX1_settle 22 = .ok (.iload 4, 2) := by decide +kernel
theorem dX1_settle_24 : decode cX1_settle 24 = .ok (.aload_n 0, 1) := by decide +kernel
theorem dX1_settle_25 : decode cX1_settle 25 = .ok (.iload 4, 2) := by decide +kernel
theorem dX1_settle_27 : decode cX1_settle 27 = .ok (.bipush 32, 2) := by decide +kernel
theorem dX1_settle_29 : decode cX1_settle 29 = .ok (.irem, 1) := by decide +kernel
theorem dX1_settle_30 : decode cX1_settle 30 = .ok (.iload 4, 2) := by decide +kernel
theorem dX1_settle_32 : decode cX1_settle 32 = .ok (.bipush 32, 2) := by decide +kernel
theorem dX1_settle_34 : decode cX1_settle 34 = .ok (.idiv, 1) := by decide +kernel
theorem dX1_settle_35 : decode cX1_settle 35 = .ok (.invokevirtual 46, 3) := by decide +kernel
theorem dX1_settle_38 : decode cX1_settle 38 = .ok (.iastore, 1) := by decide +kernel
theorem dX1_settle_39 : decode cX1_settle 39 = .ok (.iinc 4 1, 3) := by decide +kernel
theorem dX1_settle_42 : decode cX1_settle 42 = .ok (.goto (-34), 3) := by decide +kernel
theorem dX1_settle_45 : decode cX1_settle 45 = .ok (.aload_n 0, 1) := by decide +kernel
theorem dX1_settle_46 : decode cX1_settle 46 = .ok (.invokevirtual 49, 3) := by decide +kernel
theorem dX1_settle_49 : decode cX1_settle 49 = .ok (.istore 4, 2) := by decide +kernel
theorem dX1_settle_51 : decode cX1_settle 51 = .ok (.iconst 0, 1) := by decide +kernel
theorem dX1_settle_52 : decode cX1_settle 52 = .ok (.istore 5, 2) := by decide +kernel
theorem dX1_settle_54 : decode cX1_settle 54 = .ok (.iload 5, 2) := by decide +kernel
theorem dX1_settle_56 : decode cX1_settle 56 = .ok (.bipush 7, 2) := by decide +kernel
theorem dX1_settle_58 : decode cX1_settle 58 = .ok (.if_icmp .ge 45, 3) := by decide +kernel
theorem dX1_settle_61 : decode cX1_settle 61 = .ok (.aload_n 0, 1) := by decide +kernel
theorem dX1_settle_62 : decode cX1_settle 62 = .ok (.getfield 28, 3) := by decide +kernel
theorem dX1_settle_65 : decode cX1_settle 65 = .ok (.invokestatic 53, 3) := by decide +kernel
theorem dX1_settle_68 : decode cX1_settle 68 = .ok (.iconst 3, 1) := by decide +kernel
theorem dX1_settle_69 : decode cX1_settle 69 = .ok (.if_icmp .le 34, 3) := by decide +kernel
theorem dX1_settle_72 : decode cX1_settle 72 = .ok (.aload_n 0, 1) := by decide +kernel
theorem dX1_settle_73 : decode cX1_settle 73 = .ok (.getfield 25, 3) := by decide +kernel
theorem dX1_settle_76 : decode cX1_settle 76 = .ok (.iload 4, 2) := by decide +kernel
theorem dX1_settle_78 : decode cX1_settle 78 = .ok (.iaload, 1) := by decide +kernel
theorem dX1_settle_79 : decode cX1_settle 79 = .ok (.iload_n 1, 1) := by decide +kernel
theorem dX1_settle_80 : decode cX1_settle 80 = .ok (.if_icmp .le 23, 3) := by decide +kernel
theorem dX1_settle_83 : decode cX1_settle 83 = .ok (.aload_n 0, 1) := by decide +kernel
theorem dX1_settle_84 : decode cX1_settle 84 = .ok (.aload_n 0, 1) := by decide +kernel
theorem dX1_settle_85 : decode cX1_settle 85 = .ok (.invokevirtual 59, 3) := by decide +kernel
theorem dX1_settle_88 : decode cX1_settle 88 = .ok (.invokevirtual 62, 3) := by decide +kernel
theorem dX1_settle_91 : decode cX1_settle 91 = .ok (.aload_n 0, 1) := by decide +kernel
theorem dX1_settle_92 : decode cX1_settle 92 = .ok (.invokevirtual 49, 3) := by decide +kernel
theorem dX1_settle_95 : decode cX1_settle 95 = .ok (.istore 4, 2) := by decide +kernel
theorem dX1_settle_97 : decode cX1_settle 97 = .ok (.iinc 5 1, 3) := by decide +kernel
theorem dX1_settle_100 : decode cX1_settle 100 = .ok (.goto (-46), 3) := by decide +kernel
theorem dX1_settle_103 : decode cX1_settle 103 = .ok (.aload_n 2, 1) := by decide +kernel
theorem dX1_settle_104 : decode cX1_settle 104 = .ok (.iload 4, 2) := by decide +kernel
theorem dX1_settle_106 : decode cX1_settle 106 = .ok (.bipush 32, 2) := by decide +kernel
theorem dX1_settle_108 : decode cX1_settle 108 = .ok (.irem, 1) := by decide +kernel
theorem dX1_settle_109 : decode cX1_settle 109 = .ok (.putfield 66, 3) := by decide +kernel
theorem dX1_settle_112 : decode cX1_settle 112 = .ok (.aload_n 2, 1) := by decide +kernel
theorem dX1_settle_113 : decode cX1_settle 113 = .ok (.iload 4, 2) := by decide +kernel
theorem dX1_settle_115 : decode cX1_settle 115 = .ok (.bipush 32, 2) := by decide +kernel
theorem dX1_settle_117 : decode cX1_settle 117 = .ok (.idiv, 1) := by decide +kernel
theorem dX1_settle_118 : decode cX1_settle 118 = .ok (.putfield 71, 3) := by decide +kernel
theorem dX1_settle_121 : decode cX1_settle 121 = .ok (.aload_n 2, 1) := by decide +kernel
theorem dX1_settle_122 : decode cX1_settle 122 = .ok (.aload_n 0, 1) := by decide +kernel
theorem dX1_settle_123 : decode cX1_settle 123 = .ok (.getfield 25, 3) := by decide +kernel
theorem dX1_settle_126 : decode cX1_settle 126 = .ok (.iload 4, 2) := by decide +kernel
theorem dX1_settle_128 : decode cX1_settle 128 = .ok (.iaload, 1) := by decide +kernel
theorem dX1_settle_129 : decode cX1_settle 129 = .ok (.putfield 74, 3) := by decide +kernel
theorem dX1_settle_132 : decode cX1_settle 132 = .ok (.aload_n 2, 1) := by decide +kernel
theorem dX1_settle_133 : decode cX1_settle 133 = .ok (.aload_n 0, 1) := by decide +kernel
theorem dX1_settle_134 : decode cX1_settle 134 = .ok (.getfield 28, 3) := by decide +kernel
theorem dX1_settle_137 : decode cX1_settle 137 = .ok (.putfield 77, 3) := by decide +kernel
theorem dX1_settle_140 : decode cX1_settle 140 = .ok (.aload_n 2, 1) := by decide +kernel
theorem dX1_settle_141 : decode cX1_settle 141 = .ok (.iload_n 3, 1) := by decide +kernel
theorem dX1_settle_142 : decode cX1_settle 142 = .ok (.aload_n 0, 1) := by decide +kernel
theorem dX1_settle_143 : decode cX1_settle 143 = .ok (.getfield 28, 3) := by decide +kernel
theorem dX1_settle_146 : decode cX1_settle 146 = .ok (.iconst (-1), 1) := by decide +kernel
theorem dX1_settle_147 : decode cX1_settle 147 = .ok (.ixor, 1) := by decide +kernel
theorem dX1_settle_148 : decode cX1_settle 148 = .ok (.iand, 1) := by decide +kernel
theorem dX1_settle_149 : decode cX1_settle 149 = .ok (.putfield 80, 3) := by decide +kernel
theorem dX1_settle_152 : decode cX1_settle 152 = .ok (.return_, 1) := by decide +kernel
theorem dX1_leastPlace_0 : decode cX1_leastPlace 0 = .ok (.iconst 0, 1) := by decide +kernel
theorem dX1_leastPlace_1 : decode cX1_leastPlace 1 = .ok (.istore_n 1, 1) := by decide +kernel
theorem dX1_leastPlace_2 : decode cX1_leastPlace 2 = .ok (.iconst 1, 1) := by decide +kernel
theorem dX1_leastPlace_3 : decode cX1_leastPlace 3 = .ok (.istore_n 2, 1) := by decide +kernel
theorem dX1_leastPlace_4 : decode cX1_leastPlace 4 = .ok (.iload_n 2, 1) := by decide +kernel
theorem dX1_leastPlace_5 : decode cX1_leastPlace 5 = .ok (.aload_n 0, 1) := by decide +kernel
theorem dX1_leastPlace_6 : decode cX1_leastPlace 6 = .ok (.getfield 25, 3) := by decide +kernel
theorem dX1_leastPlace_9 : decode cX1_leastPlace 9 = .ok (.arraylength, 1) := by decide +kernel
theorem dX1_leastPlace_10 : decode cX1_leastPlace 10 = .ok (.if_icmp .ge 26, 3) := by decide +kernel
theorem dX1_leastPlace_13 : decode cX1_leastPlace 13 = .ok (.aload_n 0, 1) := by decide +kernel
theorem dX1_leastPlace_14 : decode cX1_leastPlace 14 = .ok (.getfield 25, 3) := by decide +kernel
theorem dX1_leastPlace_17 : decode cX1_leastPlace 17 = .ok (.iload_n 2, 1) := by decide +kernel
theorem dX1_leastPlace_18 : decode cX1_leastPlace 18 = .ok (.iaload, 1) := by decide +kernel
theorem dX1_leastPlace_19 : decode cX1_leastPlace 19 = .ok (.aload_n 0, 1) := by decide +kernel
theorem dX1_leastPlace_20 : decode cX1_leastPlace 20 = .ok (.getfield 25, 3) := by decide +kernel
theorem dX1_leastPlace_23 : decode cX1_leastPlace 23 = .ok (.iload_n 1, 1) := by decide +kernel
theorem dX1_leastPlace_24 : decode cX1_leastPlace 24 = .ok (.iaload, 1) := by decide +kernel
theorem dX1_leastPlace_25 : decode cX1_leastPlace 25 = .ok (.if_icmp .ge 5, 3) := by decide +kernel
theorem dX1_leastPlace_28 : decode cX1_leastPlace 28 = .ok (.iload_n 2, 1) := by decide +kernel
theorem dX1_leastPlace_29 : decode cX1_leastPlace 29 = .ok (.istore_n 1, 1) := by decide +kernel
theorem dX1_leastPlace_30 : decode cX1_leastPlace 30 = .ok (.iinc 2 1, 3) := by decide +kernel
theorem dX1_leastPlace_33 : decode cX1_leastPlace 33 = .ok (.goto (-29), 3) := by decide +kernel
theorem dX1_leastPlace_36 : decode cX1_leastPlace 36 = .ok (.iload_n 1, 1) := by decide +kernel
theorem dX1_leastPlace_37 : decode cX1_leastPlace 37 = .ok (.ireturn, 1) := by decide +kernel
set_option maxRecDepth 20000 in
theorem ggX1_worstFitting_X1_asks : GoodIn wsX1_worstFitting wsX1_asks := goodIn_r _ [7, 8, 23, 24, 25, 26, 27, 28] (by decide +kernel) (by decide +kernel)
set_option maxRecDepth 20000 in
theorem gX1_worstFitting_X1_asks : GoodIn wsX1_worstFitting (wsV RX1 32 RX1 yX1_asks wsX1_asks) := goodIn_app (goodIn_of _ (by decide +kernel)) ggX1_worstFitting_X1_asks
set_option maxRecDepth 20000 in
theorem ggX1_worstFitting_X1_misfitBy : GoodIn wsX1_worstFitting wsX1_misfitBy := goodIn_r _ [12, 13, 14, 15, 16, 17, 18, 19, 20, 21, 22, 23, 24, 25, 26, 27, 28, 29] (by decide +kernel) (by decide +kernel)
set_option maxRecDepth 20000 in
theorem gX1_worstFitting_X1_misfitBy : GoodIn wsX1_worstFitting (wsV RX1 36 RX1 yX1_misfitBy wsX1_misfitBy) := goodIn_app (goodIn_of _ (by decide +kernel)) ggX1_worstFitting_X1_misfitBy
theorem dX1_worstFitting_0 : decode cX1_worstFitting 0 = .ok (.iconst 0, 1) := by decide +kernel
theorem dX1_worstFitting_1 : decode cX1_worstFitting 1 = .ok (.istore_n 1, 1) := by decide +kernel
theorem dX1_worstFitting_2 : decode cX1_worstFitting 2 = .ok (.ldc 83, 2) := by decide +kernel
theorem dX1_worstFitting_4 : decode cX1_worstFitting 4 = .ok (.istore_n 2, 1) := by decide +kernel
theorem dX1_worstFitting_5 : decode cX1_worstFitting 5 = .ok (.iconst 0, 1) := by decide +kernel
theorem dX1_worstFitting_6 : decode cX1_worstFitting 6 = .ok (.istore_n 3, 1) := by decide +kernel
theorem dX1_worstFitting_7 : decode cX1_worstFitting 7 = .ok (.iload_n 3, 1) := by decide +kernel
theorem dX1_worstFitting_8 : decode cX1_worstFitting 8 = .ok (.bipush 7, 2) := by decide +kernel
theorem dX1_worstFitting_10 : decode cX1_worstFitting 10 = .ok (.if_icmp .ge 75, 3) := by decide +kernel
theorem dX1_worstFitting_13 : decode cX1_worstFitting 13 = .ok (.aload_n 0, 1) := by decide +kernel
theorem dX1_worstFitting_14 : decode cX1_worstFitting 14 = .ok (.iload_n 3, 1) := by decide +kernel
theorem dX1_worstFitting_15 : decode cX1_worstFitting 15 = .ok (.invokevirtual 32, 3) := by decide +kernel
theorem dX1_worstFitting_18 : decode cX1_worstFitting 18 = .ok (.ifCond .ne 6, 3) := by decide +kernel
theorem dX1_worstFitting_21 : decode cX1_worstFitting 21 = .ok (.goto 58, 3) := by decide +kernel
theorem dX1_worstFitting_24 : decode cX1_worstFitting 24 = .ok (.iconst 0, 1) := by decide +kernel
theorem dX1_worstFitting_25 : decode cX1_worstFitting 25 = .ok (.istore 4, 2) := by decide +kernel
theorem dX1_worstFitting_27 : decode cX1_worstFitting 27 = .ok (.iload 4, 2) := by decide +kernel
theorem dX1_worstFitting_29 : decode cX1_worstFitting 29 = .ok (.aload_n 0, 1) := by decide +kernel
theorem dX1_worstFitting_30 : decode cX1_worstFitting 30 = .ok (.getfield 25, 3) := by decide +kernel
theorem dX1_worstFitting_33 : decode cX1_worstFitting 33 = .ok (.arraylength, 1) := by decide +kernel
theorem dX1_worstFitting_34 : decode cX1_worstFitting 34 = .ok (.if_icmp .ge 45, 3) := by decide +kernel
theorem dX1_worstFitting_37 : decode cX1_worstFitting 37 = .ok (.aload_n 0, 1) := by decide +kernel
theorem dX1_worstFitting_38 : decode cX1_worstFitting 38 = .ok (.getfield 25, 3) := by decide +kernel
theorem dX1_worstFitting_41 : decode cX1_worstFitting 41 = .ok (.iload 4, 2) := by decide +kernel
theorem dX1_worstFitting_43 : decode cX1_worstFitting 43 = .ok (.iaload, 1) := by decide +kernel
theorem dX1_worstFitting_44 : decode cX1_worstFitting 44 = .ok (.aload_n 0, 1) := by decide +kernel
theorem dX1_worstFitting_45 : decode cX1_worstFitting 45 = .ok (.iload_n 3, 1) := by decide +kernel
theorem dX1_worstFitting_46 : decode cX1_worstFitting 46 = .ok (.iload 4, 2) := by decide +kernel
theorem dX1_worstFitting_48 : decode cX1_worstFitting 48 = .ok (.bipush 32, 2) := by decide +kernel
theorem dX1_worstFitting_50 : decode cX1_worstFitting 50 = .ok (.irem, 1) := by decide +kernel
theorem dX1_worstFitting_51 : decode cX1_worstFitting 51 = .ok (.iload 4, 2) := by decide +kernel
theorem dX1_worstFitting_53 : decode cX1_worstFitting 53 = .ok (.bipush 32, 2) := by decide +kernel
theorem dX1_worstFitting_55 : decode cX1_worstFitting 55 = .ok (.idiv, 1) := by decide +kernel
theorem dX1_worstFitting_56 : decode cX1_worstFitting 56 = .ok (.invokevirtual 36, 3) := by decide +kernel
theorem dX1_worstFitting_59 : decode cX1_worstFitting 59 = .ok (.isub, 1) := by decide +kernel
theorem dX1_worstFitting_60 : decode cX1_worstFitting 60 = .ok (.istore 5, 2) := by decide +kernel
theorem dX1_worstFitting_62 : decode cX1_worstFitting 62 = .ok (.iload 5, 2) := by decide +kernel
theorem dX1_worstFitting_64 : decode cX1_worstFitting 64 = .ok (.iload_n 2, 1) := by decide +kernel
theorem dX1_worstFitting_65 : decode cX1_worstFitting 65 = .ok (.if_icmp .ge 8, 3) := by decide +kernel
theorem dX1_worstFitting_68 : decode cX1_worstFitting 68 = .ok (.iload 5, 2) := by decide +kernel
theorem dX1_worstFitting_70 : decode cX1_worstFitting 70 = .ok (.istore_n 2, 1) := by decide +kernel
theorem dX1_worstFitting_71 : decode cX1_worstFitting 71 = .ok (.iload_n 3, 1) := by decide +kernel
theorem dX1_worstFitting_72 : decode cX1_worstFitting 72 = .ok (.istore_n 1, 1) := by decide +kernel
theorem dX1_worstFitting_73 : decode cX1_worstFitting 73 = .ok (.iinc 4 1, 3) := by decide +kernel
theorem dX1_worstFitting_76 : decode cX1_worstFitting 76 = .ok (.goto (-49), 3) := by decide +kernel
theorem dX1_worstFitting_79 : decode cX1_worstFitting 79 = .ok (.iinc 3 1, 3) := by decide +kernel
theorem dX1_worstFitting_82 : decode cX1_worstFitting 82 = .ok (.goto (-75), 3) := by decide +kernel
theorem dX1_worstFitting_85 : decode cX1_worstFitting 85 = .ok (.iload_n 1, 1) := by decide +kernel
theorem dX1_worstFitting_86 : decode cX1_worstFitting 86 = .ok (.ireturn, 1) := by decide +kernel
set_option maxRecDepth 20000 in
theorem ggX1_leaveOut_X1_misfitBy : GoodIn wsX1_leaveOut wsX1_misfitBy := goodIn_r _ [7, 8, 9, 10, 11, 12, 13, 14, 15, 16, 17, 18, 19, 20, 21, 22, 23, 24] (by decide +kernel) (by decide +kernel)
set_option maxRecDepth 20000 in
theorem gX1_leaveOut_X1_misfitBy : GoodIn wsX1_leaveOut (wsV RX1 36 RX1 yX1_misfitBy wsX1_misfitBy) := goodIn_app (goodIn_of _ (by decide +kernel)) ggX1_leaveOut_X1_misfitBy
theorem dX1_leaveOut_0 : decode cX1_leaveOut 0 = .ok (.aload_n 0, 1) := by decide +kernel
theorem dX1_leaveOut_1 : decode cX1_leaveOut 1 = .ok (.dup, 1) := by decide +kernel
theorem dX1_leaveOut_2 : decode cX1_leaveOut 2 = .ok (.getfield 28, 3) := by decide +kernel
theorem dX1_leaveOut_5 : decode cX1_leaveOut 5 = .ok (.iconst 1, 1) := by decide +kernel
theorem dX1_leaveOut_6 : decode cX1_leaveOut 6 = .ok (.iload_n 1, 1) := by decide +kernel
theorem dX1_leaveOut_7 : decode cX1_leaveOut 7 = .ok (.ishl, 1) := by decide +kernel
theorem dX1_leaveOut_8 : decode cX1_leaveOut 8 = .ok (.iconst (-1), 1) := by decide +kernel
theorem dX1_leaveOut_9 : decode cX1_leaveOut 9 = .ok (.ixor, 1) := by decide +kernel
theorem dX1_leaveOut_10 : decode cX1_leaveOut 10 = .ok (.iand, 1) := by decide +kernel
theorem dX1_leaveOut_11 : decode cX1_leaveOut 11 = .ok (.putfield 28, 3) := by decide +kernel
theorem dX1_leaveOut_14 : decode cX1_leaveOut 14 = .ok (.iconst 0, 1) := by decide +kernel
theorem dX1_leaveOut_15 : decode cX1_leaveOut 15 = .ok (.istore_n 2, 1) := by decide +kernel
theorem dX1_leaveOut_16 : decode cX1_leaveOut 16 = .ok (.iload_n 2, 1) := by decide +kernel
theorem dX1_leaveOut_17 : decode cX1_leaveOut 17 = .ok (.aload_n 0, 1) := by decide +kernel
theorem dX1_leaveOut_18 : decode cX1_leaveOut 18 = .ok (.getfield 25, 3) := by decide +kernel
theorem dX1_leaveOut_21 : decode cX1_leaveOut 21 = .ok (.arraylength, 1) := by decide +kernel
theorem dX1_leaveOut_22 : decode cX1_leaveOut 22 = .ok (.if_icmp .ge 31, 3) := by decide +kernel
theorem dX1_leaveOut_25 : decode cX1_leaveOut 25 = .ok (.aload_n 0, 1) := by decide +kernel
theorem dX1_leaveOut_26 : decode cX1_leaveOut 26 = .ok (.getfield 25, 3) := by decide +kernel
theorem dX1_leaveOut_29 : decode cX1_leaveOut 29 = .ok (.iload_n 2, 1) := by decide +kernel
theorem dX1_leaveOut_30 : decode cX1_leaveOut 30 = .ok (.dup2, 1) := by decide +kernel
theorem dX1_leaveOut_31 : decode cX1_leaveOut 31 = .ok (.iaload, 1) := by decide +kernel
theorem dX1_leaveOut_32 : decode cX1_leaveOut 32 = .ok (.aload_n 0, 1) := by decide +kernel
theorem dX1_leaveOut_33 : decode cX1_leaveOut 33 = .ok (.iload_n 1, 1) := by decide +kernel
theorem dX1_leaveOut_34 : decode cX1_leaveOut 34 = .ok (.iload_n 2, 1) := by decide +kernel
theorem dX1_leaveOut_35 : decode cX1_leaveOut 35 = .ok (.bipush 32, 2) := by decide +kernel
theorem dX1_leaveOut_37 : decode cX1_leaveOut 37 = .ok (.irem, 1) := by decide +kernel
theorem dX1_leaveOut_38 : decode cX1_leaveOut 38 = .ok (.iload_n 2, 1) := by decide +kernel
theorem dX1_leaveOut_39 : decode cX1_leaveOut 39 = .ok (.bipush 32, 2) := by decide +kernel
theorem dX1_leaveOut_41 : decode cX1_leaveOut 41 = .ok (.idiv, 1) := by decide +kernel
theorem dX1_leaveOut_42 : decode cX1_leaveOut 42 = .ok (.invokevirtual 36, 3) := by decide +kernel
theorem dX1_leaveOut_45 : decode cX1_leaveOut 45 = .ok (.isub, 1) := by decide +kernel
theorem dX1_leaveOut_46 : decode cX1_leaveOut 46 = .ok (.iastore, 1) := by decide +kernel
theorem dX1_leaveOut_47 : decode cX1_leaveOut 47 = .ok (.iinc 2 1, 3) := by decide +kernel
theorem dX1_leaveOut_50 : decode cX1_leaveOut 50 = .ok (.goto (-34), 3) := by decide +kernel
theorem dX1_leaveOut_53 : decode cX1_leaveOut 53 = .ok (.return_, 1) := by decide +kernel
theorem dX2_init_0 : decode cX2_init 0 = .ok (.aload_n 0, 1) := by decide +kernel
theorem dX2_init_1 : decode cX2_init 1 = .ok (.invokespecial 3, 3) := by decide +kernel
theorem dX2_init_4 : decode cX2_init 4 = .ok (.aload_n 0, 1) := by decide +kernel
theorem dX2_init_5 : decode cX2_init 5 = .ok (.sipush 1923, 3) := by decide +kernel
theorem dX2_init_8 : decode cX2_init 8 = .ok (.newarray .int, 2) := by decide +kernel
theorem dX2_init_10 : decode cX2_init 10 = .ok (.putfield 11, 3) := by decide +kernel
theorem dX2_init_13 : decode cX2_init 13 = .ok (.iconst 0, 1) := by decide +kernel
theorem dX2_init_14 : decode cX2_init 14 = .ok (.istore_n 1, 1) := by decide +kernel
theorem dX2_init_15 : decode cX2_init 15 = .ok (.iconst 0, 1) := by decide +kernel
theorem dX2_init_16 : decode cX2_init 16 = .ok (.istore_n 2, 1) := by decide +kernel
theorem dX2_init_17 : decode cX2_init 17 = .ok (.iload_n 2, 1) := by decide +kernel
theorem dX2_init_18 : decode cX2_init 18 = .ok (.sipush 1923, 3) := by decide +kernel
theorem dX2_init_21 : decode cX2_init 21 = .ok (.if_icmp .ge 36, 3) := by decide +kernel
theorem dX2_init_24 : decode cX2_init 24 = .ok (.iload_n 1, 1) := by decide +kernel
theorem dX2_init_25 : decode cX2_init 25 = .ok (.iconst 1, 1) := by decide +kernel
theorem dX2_init_26 : decode cX2_init 26 = .ok (.iadd, 1) := by decide +kernel
theorem dX2_init_27 : decode cX2_init 27 = .ok (.iload_n 1, 1) := by decide +kernel
theorem dX2_init_28 : decode cX2_init 28 = .ok (.iconst 1, 1) := by decide +kernel
theorem dX2_init_29 : decode cX2_init 29 = .ok (.iadd, 1) := by decide +kernel
theorem dX2_init_30 : decode cX2_init 30 = .ok (.imul, 1) := by decide +kernel
theorem dX2_init_31 : decode cX2_init 31 = .ok (.bipush 100, 2) := by decide +kernel
theorem dX2_init_33 : decode cX2_init 33 = .ok (.iload_n 2, 1) := by decide +kernel
theorem dX2_init_34 : decode cX2_init 34 = .ok (.imul, 1) := by decide +kernel
theorem dX2_init_35 : decode cX2_init 35 = .ok (.if_icmp .gt 9, 3) := by decide +kernel
theorem dX2_init_38 : decode cX2_init 38 = .ok (.iinc 1 1, 3) := by decide +kernel
theorem dX2_init_41 : decode cX2_init 41 = .ok (.goto (-17), 3) := by decide +kernel
theorem dX2_init_44 : decode cX2_init 44 = .ok (.aload_n 0, 1) := by decide +kernel
theorem dX2_init_45 : decode cX2_init 45 = .ok (.getfield 11, 3) := by decide +kernel
theorem dX2_init_48 : decode cX2_init 48 = .ok (.iload_n 2, 1) := by decide +kernel
theorem dX2_init_49 : decode cX2_init 49 = .ok (.iload_n 1, 1) := by decide +kernel
theorem dX2_init_50 : decode cX2_init 50 = .ok (.iastore, 1) := by decide +kernel
theorem dX2_init_51 : decode cX2_init 51 = .ok (.iinc 2 1, 3) := by decide +kernel
theorem dX2_init_54 : decode cX2_init 54 = .ok (.goto (-37), 3) := by decide +kernel
theorem dX2_init_57 : decode cX2_init 57 = .ok (.return_, 1) := by decide +kernel
theorem dX2_over_0 : decode cX2_over 0 = .ok (.iload_n 1, 1) := by decide +kernel
theorem dX2_over_1 : decode cX2_over 1 = .ok (.iload_n 1, 1) := by decide +kernel
theorem dX2_over_2 : decode cX2_over 2 = .ok (.imul, 1) := by decide +kernel
theorem dX2_over_3 : decode cX2_over 3 = .ok (.iload_n 2, 1) := by decide +kernel
theorem dX2_over_4 : decode cX2_over 4 = .ok (.iload_n 2, 1) := by decide +kernel
theorem dX2_over_5 : decode cX2_over 5 = .ok (.imul, 1) := by decide +kernel
theorem dX2_over_6 : decode cX2_over 6 = .ok (.iadd, 1) := by decide +kernel
theorem dX2_over_7 : decode cX2_over 7 = .ok (.istore_n 3, 1) := by decide +kernel
theorem dX2_over_8 : decode cX2_over 8 = .ok (.iload_n 3, 1) := by decide +kernel
theorem dX2_over_9 : decode cX2_over 9 = .ok (.ifCond .lt 19, 3) := by decide +kernel
theorem dX2_over_12 : decode cX2_over 12 = .ok (.iload_n 3, 1) := by decide +kernel
theorem dX2_over_13 : decode cX2_over 13 = .ok (.sipush 1923, 3) := by decide +kernel
theorem dX2_over_16 : decode cX2_over 16 = .ok (.if_icmp .ge 12, 3) := by decide +kernel
theorem dX2_over_19 : decode cX2_over 19 = .ok (.aload_n 0, 1) := by decide +kernel
theorem dX2_over_20 : decode cX2_over 20 = .ok (.getfield 11, 3) := by decide +kernel
theorem dX2_over_23 : decode cX2_over 23 = .ok (.iload_n 3, 1) := by decide +kernel
theorem dX2_over_24 : decode cX2_over 24 = .ok (.iaload, 1) := by decide +kernel
theorem dX2_over_25 : decode cX2_over 25 = .ok (.goto 4, 3) := by decide +kernel
theorem dX2_over_28 : decode cX2_over 28 = .ok (.iconst 0, 1) := by decide +kernel
theorem dX2_over_29 : decode cX2_over 29 = .ok (.ireturn, 1) := by decide +kernel
theorem dX3_init_0 : decode cX3_init 0 = .ok (.aload_n 0, 1) := by decide +kernel
theorem dX3_init_1 : decode cX3_init 1 = .ok (.invokespecial 3, 3) := by decide +kernel
theorem dX3_init_4 : decode cX3_init 4 = .ok (.aload_n 0, 1) := by decide +kernel
theorem dX3_init_5 : decode cX3_init 5 = .ok (.bipush 7, 2) := by decide +kernel
theorem dX3_init_7 : decode cX3_init 7 = .ok (.newarray .long, 2) := by decide +kernel
theorem dX3_init_9 : decode cX3_init 9 = .ok (.putfield 9, 3) := by decide +kernel
theorem dX3_init_12 : decode cX3_init 12 = .ok (.return_, 1) := by decide +kernel
theorem dX3_isOf_0 : decode cX3_isOf 0 = .ok (.iload_n 1, 1) := by decide +kernel
theorem dX3_isOf_1 : decode cX3_isOf 1 = .ok (.aload_n 0, 1) := by decide +kernel
theorem dX3_isOf_2 : decode cX3_isOf 2 = .ok (.getfield 15, 3) := by decide +kernel
theorem dX3_isOf_5 : decode cX3_isOf 5 = .ok (.if_icmp .eq 11, 3) := by decide +kernel
theorem dX3_isOf_8 : decode cX3_isOf 8 = .ok (.iload_n 1, 1) := by decide +kernel
theorem dX3_isOf_9 : decode cX3_isOf 9 = .ok (.aload_n 0, 1) := by decide +kernel
theorem dX3_isOf_10 : decode cX3_isOf 10 = .ok (.getfield 19, 3) := by decide +kernel
theorem dX3_isOf_13 : decode cX3_isOf 13 = .ok (.if_icmp .ne 7, 3) := by decide +kernel
theorem dX3_isOf_16 : decode cX3_isOf 16 = .ok (.iconst 1, 1) := by decide +kernel
theorem dX3_isOf_17 : decode cX3_isOf 17 = .ok (.goto 4, 3) := by decide +kernel
theorem dX3_isOf_20 : decode cX3_isOf 20 = .ok (.iconst 0, 1) := by decide +kernel
theorem dX3_isOf_21 : decode cX3_isOf 21 = .ok (.ireturn, 1) := by decide +kernel
theorem dX3_replyA_0 : decode cX3_replyA 0 = .ok (.aload_n 0, 1) := by decide +kernel
theorem dX3_replyA_1 : decode cX3_replyA 1 = .ok (.getfield 9, 3) := by decide +kernel
theorem dX3_replyA_4 : decode cX3_replyA 4 = .ok (.iconst 3, 1) := by decide +kernel
theorem dX3_replyA_5 : decode cX3_replyA 5 = .ok (.laload, 1) := by decide +kernel
theorem dX3_replyA_6 : decode cX3_replyA 6 = .ok (.aload_n 0, 1) := by decide +kernel
theorem dX3_replyA_7 : decode cX3_replyA 7 = .ok (.getfield 9, 3) := by decide +kernel
theorem dX3_replyA_10 : decode cX3_replyA 10 = .ok (.iconst 2, 1) := by decide +kernel
theorem dX3_replyA_11 : decode cX3_replyA 11 = .ok (.laload, 1) := by decide +kernel
theorem dX3_replyA_12 : decode cX3_replyA 12 = .ok (.lsub, 1) := by decide +kernel
theorem dX3_replyA_13 : decode cX3_replyA 13 = .ok (.lreturn, 1) := by decide +kernel
set_option maxRecDepth 20000 in
theorem ggX3_stamp_X5_clockAt : GoodIn wsX3_stamp wsX5_clockAt := goodIn_r _ [9, 10, 11, 12, 13, 14, 15, 16, 30, 31, 32, 33, 34, 35, 36, 37] (by decide +kernel) (by decide +kernel)
set_option maxRecDepth 20000 in
theorem gX3_stamp_X5_clockAt : GoodIn wsX3_stamp (wsV RX3 27 RX5 yX5_clockAt wsX5_clockAt) := goodIn_app (goodIn_of _ (by decide +kernel)) ggX3_stamp_X5_clockAt
set_option maxRecDepth 20000 in
theorem ggX3_stamp_X3_reckon : GoodIn wsX3_stamp wsX3_reckon := goodIn_r _ [21, 2, 22, 23, 24, 25, 26, 27, 20, 28, 29, 14, 15, 16, 38, 39, 40, 41, 42, 43, 44, 45, 46] (by decide +kernel) (by decide +kernel)
set_option maxRecDepth 20000 in
theorem gX3_stamp_X3_reckon : GoodIn wsX3_stamp (wsV RX3 38 RX3 yX3_reckon wsX3_reckon) := goodIn_app (goodIn_of _ (by decide +kernel)) ggX3_stamp_X3_reckon
theorem dX3_stamp_0 : decode cX3_stamp 0 = .ok (.lload_n 3, 1) := by decide +kernel
theorem dX3_stamp_1 : decode cX3_stamp 1 = .ok (.lstore 6, 2) := by decide +kernel
theorem dX3_stamp_3 : decode cX3_stamp 3 = .ok (.lload 6, 2) := by decide +kernel
theorem dX3_stamp_5 : decode cX3_stamp 5 = .ok (.iload 5, 2) := by decide +kernel
theorem dX3_stamp_7 : decode cX3_stamp 7 = .ok (.i2l, 1) := by decide +kernel
theorem dX3_stamp_8 : decode cX3_stamp 8 = .ok (.ladd, 1) := by decide +kernel
theorem dX3_stamp_9 : decode cX3_stamp 9 = .ok (.lstore 8, 2) := by decide +kernel
theorem dX3_stamp_11 : decode cX3_stamp 11 = .ok (.lload 8, 2) := by decide +kernel
theorem dX3_stamp_13 : decode cX3_stamp 13 = .ok (.aload_n 2, 1) := by decide +kernel
theorem dX3_stamp_14 : decode cX3_stamp 14 = .ok (.getfield 22, 3) := by decide +kernel
theorem dX3_stamp_17 : decode cX3_stamp 17 = .ok (.i2l, 1) := by decide +kernel
theorem dX3_stamp_18 : decode cX3_stamp 18 = .ok (.ladd, 1) := by decide +kernel
theorem dX3_stamp_19 : decode cX3_stamp 19 = .ok (.lstore 10, 2) := by decide +kernel
theorem dX3_stamp_21 : decode cX3_stamp 21 = .ok (.lload 10, 2) := by decide +kernel
theorem dX3_stamp_23 : decode cX3_stamp 23 = .ok (.iload 5, 2) := by decide +kernel
theorem dX3_stamp_25 : decode cX3_stamp 25 = .ok (.i2l, 1) := by decide +kernel
theorem dX3_stamp_26 : decode cX3_stamp 26 = .ok (.ladd, 1) := by decide +kernel
theorem dX3_stamp_27 : decode cX3_stamp 27 = .ok (.lstore 12, 2) := by decide +kernel
theorem dX3_stamp_29 : decode cX3_stamp 29 = .ok (.lload 12, 2) := by decide +kernel
theorem dX3_stamp_31 : decode cX3_stamp 31 = .ok (.aload_n 1, 1) := by decide +kernel
theorem dX3_stamp_32 : decode cX3_stamp 32 = .ok (.getfield 22, 3) := by decide +kernel
theorem dX3_stamp_35 : decode cX3_stamp 35 = .ok (.i2l, 1) := by decide +kernel
theorem dX3_stamp_36 : decode cX3_stamp 36 = .ok (.ladd, 1) := by decide +kernel
theorem dX3_stamp_37 : decode cX3_stamp 37 = .ok (.lstore 14, 2) := by decide +kernel
theorem dX3_stamp_39 : decode cX3_stamp 39 = .ok (.lload 14, 2) := by decide +kernel
theorem dX3_stamp_41 : decode cX3_stamp 41 = .ok (.iload 5, 2) := by decide +kernel
theorem dX3_stamp_43 : decode cX3_stamp 43 = .ok (.i2l, 1) := by decide +kernel
theorem dX3_stamp_44 : decode cX3_stamp 44 = .ok (.ladd, 1) := by decide +kernel
theorem dX3_stamp_45 : decode cX3_stamp 45 = .ok (.lstore 16, 2) := by decide +kernel
theorem dX3_stamp_47 : decode cX3_stamp 47 = .ok (.aload_n 0, 1) := by decide +kernel
theorem dX3_stamp_48 : decode cX3_stamp 48 = .ok (.getfield 9, 3) := by decide +kernel
theorem dX3_stamp_51 : decode cX3_stamp 51 = .ok (.iconst 1, 1) := by decide +kernel
theorem dX3_stamp_52 : decode cX3_stamp 52 = .ok (.aload_n 1, 1) := by decide +kernel
theorem dX3_stamp_53 : decode cX3_stamp 53 = .ok (.lload 6, 2) := by decide +kernel
theorem dX3_stamp_55 : decode cX3_stamp 55 = .ok (.invokevirtual 27, 3) := by decide +kernel
theorem dX3_stamp_58 : decode cX3_stamp 58 = .ok (.lastore, 1) := by decide +kernel
theorem dX3_stamp_59 : decode cX3_stamp 59 = .ok (.aload_n 0, 1) := by decide +kernel
theorem dX3_stamp_60 : decode cX3_stamp 60 = .ok (.getfield 9, 3) := by decide +kernel
theorem dX3_stamp_63 : decode cX3_stamp 63 = .ok (.iconst 2, 1) := by decide +kernel
theorem dX3_stamp_64 : decode cX3_stamp 64 = .ok (.aload_n 2, 1) := by decide +kernel
theorem dX3_stamp_65 : decode cX3_stamp 65 = .ok (.lload 8, 2) := by decide +kernel
theorem dX3_stamp_67 : decode cX3_stamp 67 = .ok (.invokevirtual 27, 3) := by decide +kernel
theorem dX3_stamp_70 : decode cX3_stamp 70 = .ok (.lastore, 1) := by decide +kernel
theorem dX3_stamp_71 : decode cX3_stamp 71 = .ok (.aload_n 0, 1) := by decide +kernel
theorem dX3_stamp_72 : decode cX3_stamp 72 = .ok (.getfield 9, 3) := by decide +kernel
theorem dX3_stamp_75 : decode cX3_stamp 75 = .ok (.iconst 3, 1) := by decide +kernel
theorem dX3_stamp_76 : decode cX3_stamp 76 = .ok (.aload_n 2, 1) := by decide +kernel
theorem dX3_stamp_77 : decode cX3_stamp 77 = .ok (.lload 10, 2) := by decide +kernel
theorem dX3_stamp_79 : decode cX3_stamp 79 = .ok (.invokevirtual 27, 3) := by decide +kernel
theorem dX3_stamp_82 : decode cX3_stamp 82 = .ok (.lastore, 1) := by decide +kernel
theorem dX3_stamp_83 : decode cX3_stamp 83 = .ok (.aload_n 0, 1) := by decide +kernel
theorem dX3_stamp_84 : decode cX3_stamp 84 = .ok (.getfield 9, 3) := by decide +kernel
theorem dX3_stamp_87 : decode cX3_stamp 87 = .ok (.iconst 4, 1) := by decide +kernel
theorem dX3_stamp_88 : decode cX3_stamp 88 = .ok (.aload_n 1, 1) := by decide +kernel
theorem dX3_stamp_89 : decode cX3_stamp 89 = .ok (.lload 12, 2) := by decide +kernel
theorem dX3_stamp_91 : decode cX3_stamp 91 = .ok (.invokevirtual 27, 3) := by decide +kernel
theorem dX3_stamp_94 : decode cX3_stamp 94 = .ok (.lastore, 1) := by decide +kernel
theorem dX3_stamp_95 : decode cX3_stamp 95 = .ok (.aload_n 0, 1) := by decide +kernel
theorem dX3_stamp_96 : decode cX3_stamp 96 = .ok (.getfield 9, 3) := by decide +kernel
theorem dX3_stamp_99 : decode cX3_stamp 99 = .ok (.iconst 5, 1) := by decide +kernel
theorem dX3_stamp_100 : decode cX3_stamp 100 = .ok (.aload_n 1, 1) := by decide +kernel
theorem dX3_stamp_101 : decode cX3_stamp 101 = .ok (.lload 14, 2) := by decide +kernel
theorem dX3_stamp_103 : decode cX3_stamp 103 = .ok (.invokevirtual 27, 3) := by decide +kernel
theorem dX3_stamp_106 : decode cX3_stamp 106 = .ok (.lastore, 1) := by decide +kernel
theorem dX3_stamp_107 : decode cX3_stamp 107 = .ok (.aload_n 0, 1) := by decide +kernel
theorem dX3_stamp_108 : decode cX3_stamp 108 = .ok (.getfield 9, 3) := by decide +kernel
theorem dX3_stamp_111 : decode cX3_stamp 111 = .ok (.bipush 6, 2) := by decide +kernel
theorem dX3_stamp_113 : decode cX3_stamp 113 = .ok (.aload_n 2, 1) := by decide +kernel
theorem dX3_stamp_114 : decode cX3_stamp 114 = .ok (.lload 16, 2) := by decide +kernel
theorem dX3_stamp_116 : decode cX3_stamp 116 = .ok (.invokevirtual 27, 3) := by decide +kernel
theorem dX3_stamp_119 : decode cX3_stamp 119 = .ok (.lastore, 1) := by decide +kernel
theorem dX3_stamp_120 : decode cX3_stamp 120 = .ok (.aload_n 0, 1) := by decide +kernel
theorem dX3_stamp_121 : decode cX3_stamp 121 = .ok (.lload 6, 2) := by decide +kernel
theorem dX3_stamp_123 : decode cX3_stamp 123 = .ok (.putfield 31, 3) := by decide +kernel
theorem dX3_stamp_126 : decode cX3_stamp 126 = .ok (.aload_n 0, 1) := by decide +kernel
theorem dX3_stamp_127 : decode cX3_stamp 127 = .ok (.lload 10, 2) := by decide +kernel
theorem dX3_stamp_129 : decode cX3_stamp 129 = .ok (.putfield 35, 3) := by decide +kernel
theorem dX3_stamp_132 : decode cX3_stamp 132 = .ok (.aload_n 0, 1) := by decide +kernel
theorem dX3_stamp_133 : decode cX3_stamp 133 = .ok (.invokevirtual 38, 3) := by decide +kernel
theorem dX3_stamp_136 : decode cX3_stamp 136 = .ok (.lload 16, 2) := by decide +kernel
theorem dX3_stamp_138 : decode cX3_stamp 138 = .ok (.lreturn, 1) := by decide +kernel
set_option maxRecDepth 20000 in
theorem ggX3_reckon_X3_replyA : GoodIn wsX3_reckon wsX3_replyA := goodIn_r _ [9, 1, 14, 15, 16, 17, 18, 19, 20, 21, 22] (by decide +kernel) (by decide +kernel)
set_option maxRecDepth 20000 in
theorem gX3_reckon_X3_replyA : GoodIn wsX3_reckon (wsV RX3 41 RX3 yX3_replyA wsX3_replyA) := goodIn_app (goodIn_of _ (by decide +kernel)) ggX3_reckon_X3_replyA
set_option maxRecDepth 20000 in
theorem ggX3_reckon_J9_floorDiv_f86c9 : GoodIn wsX3_reckon wsJ9_floorDiv_f86c9 := goodIn_r _ [13] (by decide +kernel) (by decide +kernel)
set_option maxRecDepth 20000 in
theorem gX3_reckon_J9_floorDiv_f86c9 : GoodIn wsX3_reckon (va_wsS RX3 47 yJ9_floorDiv_f86c9 wsJ9_floorDiv_f86c9) := goodIn_app (goodIn_of _ (by decide +kernel)) ggX3_reckon_J9_floorDiv_f86c9
theorem dX3_reckon_0 : decode cX3_reckon 0 = .ok (.aload_n 0, 1) := by decide +kernel
theorem dX3_reckon_1 : decode cX3_reckon 1 = .ok (.getfield 9, 3) := by decide +kernel
theorem dX3_reckon_4 : decode cX3_reckon 4 = .ok (.iconst 4, 1) := by decide +kernel
theorem dX3_reckon_5 : decode cX3_reckon 5 = .ok (.laload, 1) := by decide +kernel
theorem dX3_reckon_6 : decode cX3_reckon 6 = .ok (.aload_n 0, 1) := by decide +kernel
theorem dX3_reckon_7 : decode cX3_reckon 7 = .ok (.getfield 9, 3) := by decide +kernel
theorem dX3_reckon_10 : decode cX3_reckon 10 = .ok (.iconst 1, 1) := by decide +kernel
theorem dX3_reckon_11 : decode cX3_reckon 11 = .ok (.laload, 1) := by decide +kernel
theorem dX3_reckon_12 : decode cX3_reckon 12 = .ok (.lsub, 1) := by decide +kernel
theorem dX3_reckon_13 : decode cX3_reckon 13 = .ok (.lstore_n 1, 1) := by decide +kernel
theorem dX3_reckon_14 : decode cX3_reckon 14 = .ok (.aload_n 0, 1) := by decide +kernel
theorem dX3_reckon_15 : decode cX3_reckon 15 = .ok (.invokevirtual 41, 3) := by decide +kernel
theorem dX3_reckon_18 : decode cX3_reckon 18 = .ok (.lstore_n 3, 1) := by decide +kernel
theorem dX3_reckon_19 : decode cX3_reckon 19 = .ok (.aload_n 0, 1) := by decide +kernel
theorem dX3_reckon_20 : decode cX3_reckon 20 = .ok (.getfield 9, 3) := by decide +kernel
theorem dX3_reckon_23 : decode cX3_reckon 23 = .ok (.bipush 6, 2) := by decide +kernel
theorem dX3_reckon_25 : decode cX3_reckon 25 = .ok (.laload, 1) := by decide +kernel
theorem dX3_reckon_26 : decode cX3_reckon 26 = .ok (.aload_n 0, 1) := by decide +kernel
theorem dX3_reckon_27 : decode cX3_reckon 27 = .ok (.getfield 9, 3) := by decide +kernel
theorem dX3_reckon_30 : decode cX3_reckon 30 = .ok (.iconst 3, 1) := by decide +kernel
theorem dX3_reckon_31 : decode cX3_reckon 31 = .ok (.laload, 1) := by decide +kernel
theorem dX3_reckon_32 : decode cX3_reckon 32 = .ok (.lsub, 1) := by decide +kernel
theorem dX3_reckon_33 : decode cX3_reckon 33 = .ok (.lstore 5, 2) := by decide +kernel
theorem dX3_reckon_35 : decode cX3_reckon 35 = .ok (.aload_n 0, 1) := by decide +kernel
theorem dX3_reckon_36 : decode cX3_reckon 36 = .ok (.getfield 9, 3) := by decide +kernel
theorem dX3_reckon_39 : decode cX3_reckon 39 = .ok (.iconst 5, 1) := by decide +kernel
theorem dX3_reckon_40 : decode cX3_reckon 40 = .ok (.laload, 1) := by decide +kernel
theorem dX3_reckon_41 : decode cX3_reckon 41 = .ok (.aload_n 0, 1) := by decide +kernel
theorem dX3_reckon_42 : decode cX3_reckon 42 = .ok (.getfield 9, 3) := by decide +kernel
theorem dX3_reckon_45 : decode cX3_reckon 45 = .ok (.iconst 4, 1) := by decide +kernel
theorem dX3_reckon_46 : decode cX3_reckon 46 = .ok (.laload, 1) := by decide +kernel
theorem dX3_reckon_47 : decode cX3_reckon 47 = .ok (.lsub, 1) := by decide +kernel
theorem dX3_reckon_48 : decode cX3_reckon 48 = .ok (.lstore 7, 2) := by decide +kernel
theorem dX3_reckon_50 : decode cX3_reckon 50 = .ok (.lload_n 1, 1) := by decide +kernel
theorem dX3_reckon_51 : decode cX3_reckon 51 = .ok (.lload 5, 2) := by decide +kernel
theorem dX3_reckon_53 : decode cX3_reckon 53 = .ok (.ladd, 1) := by decide +kernel
theorem dX3_reckon_54 : decode cX3_reckon 54 = .ok (.lload_n 3, 1) := by decide +kernel
theorem dX3_reckon_55 : decode cX3_reckon 55 = .ok (.ladd, 1) := by decide +kernel
theorem dX3_reckon_56 : decode cX3_reckon 56 = .ok (.lload 7, 2) := by decide +kernel
theorem dX3_reckon_58 : decode cX3_reckon 58 = .ok (.ladd, 1) := by decide +kernel
theorem dX3_reckon_59 : decode cX3_reckon 59 = .ok (.lstore 9, 2) := by decide +kernel
theorem dX3_reckon_61 : decode cX3_reckon 61 = .ok (.aload_n 0, 1) := by decide +kernel
theorem dX3_reckon_62 : decode cX3_reckon 62 = .ok (.lload_n 1, 1) := by decide +kernel
theorem dX3_reckon_63 : decode cX3_reckon 63 = .ok (.lload_n 3, 1) := by decide +kernel
theorem dX3_reckon_64 : decode cX3_reckon 64 = .ok (.lsub, 1) := by decide +kernel
theorem dX3_reckon_65 : decode cX3_reckon 65 = .ok (.ldc2_w 45, 3) := by decide +kernel
theorem dX3_reckon_68 : decode cX3_reckon 68 = .ok (.invokestatic 47, 3) := by decide +kernel
theorem dX3_reckon_71 : decode cX3_reckon 71 = .ok (.l2i, 1) := by decide +kernel
theorem dX3_reckon_72 : decode cX3_reckon 72 = .ok (.putfield 53, 3) := by decide +kernel
theorem dX3_reckon_75 : decode cX3_reckon 75 = .ok (.aload_n 0, 1) := by decide +kernel
theorem dX3_reckon_76 : decode cX3_reckon 76 = .ok (.lload 9, 2) := by decide +kernel
theorem dX3_reckon_78 : decode cX3_reckon 78 = .ok (.lconst 0, 1) := by decide +kernel
theorem dX3_reckon_79 : decode cX3_reckon 79 = .ok (.lcmp, 1) := by decide +kernel
theorem dX3_reckon_80 : decode cX3_reckon 80 = .ok (.ifCond .ne 7, 3) := by decide +kernel
theorem dX3_reckon_83 : decode cX3_reckon 83 = .ok (.iconst 0, 1) := by decide +kernel
theorem dX3_reckon_84 : decode cX3_reckon 84 = .ok (.goto 18, 3) := by decide +kernel
theorem dX3_reckon_87 : decode cX3_reckon 87 = .ok (.lload_n 1, 1) := by decide +kernel
theorem dX3_reckon_88 : decode cX3_reckon 88 = .ok (.lload 5, 2) := by decide +kernel
theorem dX3_reckon_90 : decode cX3_reckon 90 = .ok (.lmul, 1) := by decide +kernel
theorem dX3_reckon_91 : decode cX3_reckon 91 = .ok (.lload_n 3, 1) := by decide +kernel
theorem dX3_reckon_92 : decode cX3_reckon 92 = .ok (.lload 7, 2) := by decide +kernel
theorem dX3_reckon_94 : decode cX3_reckon 94 = .ok (.lmul, 1) := by decide +kernel
theorem dX3_reckon_95 : decode cX3_reckon 95 = .ok (.lsub, 1) := by decide +kernel
theorem dX3_reckon_96 : decode cX3_reckon 96 = .ok (.lload 9, 2) := by decide +kernel
theorem dX3_reckon_98 : decode cX3_reckon 98 = .ok (.invokestatic 47, 3) := by decide +kernel
theorem dX3_reckon_101 : decode cX3_reckon 101 = .ok (.l2i, 1) := by decide +kernel
theorem dX3_reckon_102 : decode cX3_reckon 102 = .ok (.putfield 56, 3) := by decide +kernel
theorem dX3_reckon_105 : decode cX3_reckon 105 = .ok (.return_, 1) := by decide +kernel
theorem dX3_tell_0 : decode cX3_tell 0 = .ok (.iload_n 1, 1) := by decide +kernel
theorem dX3_tell_1 : decode cX3_tell 1 = .ok (.iconst 1, 1) := by decide +kernel
theorem dX3_tell_2 : decode cX3_tell 2 = .ok (.if_icmp .lt 17, 3) := by decide +kernel
theorem dX3_tell_5 : decode cX3_tell 5 = .ok (.iload_n 1, 1) := by decide +kernel
theorem dX3_tell_6 : decode cX3_tell 6 = .ok (.bipush 6, 2) := by decide +kernel
theorem dX3_tell_8 : decode cX3_tell 8 = .ok (.if_icmp .gt 11, 3) := by decide +kernel
theorem dX3_tell_11 : decode cX3_tell 11 = .ok (.aload_n 0, 1) := by decide +kernel
theorem dX3_tell_12 : decode cX3_tell 12 = .ok (.getfield 9, 3) := by decide +kernel
theorem dX3_tell_15 : decode cX3_tell 15 = .ok (.iload_n 1, 1) := by decide +kernel
theorem dX3_tell_16 : decode cX3_tell 16 = .ok (.laload, 1) := by decide +kernel
theorem dX3_tell_17 : decode cX3_tell 17 = .ok (.l2i, 1) := by decide +kernel
theorem dX3_tell_18 : decode cX3_tell 18 = .ok (.ireturn, 1) := by decide +kernel
theorem dX3_tell_19 : decode cX3_tell 19 = .ok (.iload_n 1, 1) := by decide +kernel
theorem dX3_tell_20 : decode cX3_tell 20 = .ok (.tableswitch 61 7 11 #[36, 41, 46, 51, 56], 36) := by decide +kernel
theorem dX3_tell_56 : decode cX3_tell 56 = .ok (.aload_n 0, 1) := by decide +kernel
theorem dX3_tell_57 : decode cX3_tell 57 = .ok (.getfield 53, 3) := by decide +kernel
theorem dX3_tell_60 : decode cX3_tell 60 = .ok (.ireturn, 1) := by decide +kernel
theorem dX3_tell_61 : decode cX3_tell 61 = .ok (.aload_n 0, 1) := by decide +kernel
theorem dX3_tell_62 : decode cX3_tell 62 = .ok (.getfield 56, 3) := by decide +kernel
theorem dX3_tell_65 : decode cX3_tell 65 = .ok (.ireturn, 1) := by decide +kernel
theorem dX3_tell_66 : decode cX3_tell 66 = .ok (.aload_n 0, 1) := by decide +kernel
theorem dX3_tell_67 : decode cX3_tell 67 = .ok (.getfield 59, 3) := by decide +kernel
theorem dX3_tell_70 : decode cX3_tell 70 = .ok (.ireturn, 1) := by decide +kernel
theorem dX3_tell_71 : decode cX3_tell 71 = .ok (.aload_n 0, 1) := by decide +kernel
theorem dX3_tell_72 : decode cX3_tell 72 = .ok (.getfield 15, 3) := by decide +kernel
theorem dX3_tell_75 : decode cX3_tell 75 = .ok (.ireturn, 1) := by decide +kernel
theorem dX3_tell_76 : decode cX3_tell 76 = .ok (.aload_n 0, 1) := by decide +kernel
theorem dX3_tell_77 : decode cX3_tell 77 = .ok (.getfield 19, 3) := by decide +kernel
theorem dX3_tell_80 : decode cX3_tell 80 = .ok (.ireturn, 1) := by decide +kernel
theorem dX3_tell_81 : decode cX3_tell 81 = .ok (.ldc 62, 2) := by decide +kernel
theorem dX3_tell_83 : decode cX3_tell 83 = .ok (.ireturn, 1) := by decide +kernel
theorem dX4_init_0 : decode cX4_init 0 = .ok (.aload_n 0, 1) := by decide +kernel
theorem dX4_init_1 : decode cX4_init 1 = .ok (.invokespecial 3, 3) := by decide +kernel
theorem dX4_init_4 : decode cX4_init 4 = .ok (.aload_n 0, 1) := by decide +kernel
theorem dX4_init_5 : decode cX4_init 5 = .ok (.bipush 6, 2) := by decide +kernel
theorem dX4_init_7 : decode cX4_init 7 = .ok (.newarray .int, 2) := by decide +kernel
theorem dX4_init_9 : decode cX4_init 9 = .ok (.putfield 9, 3) := by decide +kernel
theorem dX4_init_12 : decode cX4_init 12 = .ok (.aload_n 0, 1) := by decide +kernel
theorem dX4_init_13 : decode cX4_init 13 = .ok (.bipush 6, 2) := by decide +kernel
theorem dX4_init_15 : decode cX4_init 15 = .ok (.newarray .int, 2) := by decide +kernel
theorem dX4_init_17 : decode cX4_init 17 = .ok (.putfield 15, 3) := by decide +kernel
theorem dX4_init_20 : decode cX4_init 20 = .ok (.return_, 1) := by decide +kernel
set_option maxRecDepth 20000 in
theorem ggX4_begin_X4_add : GoodIn wsX4_begin wsX4_add := goodIn_r _ [8, 1, 9, 10, 11, 12, 13, 14, 15] (by decide +kernel) (by decide +kernel)
set_option maxRecDepth 20000 in
theorem gX4_begin_X4_add : GoodIn wsX4_begin (wsV RX4 22 RX4 yX4_add wsX4_add) := goodIn_app (goodIn_of _ (by decide +kernel)) ggX4_begin_X4_add
theorem dX4_begin_0 : decode cX4_begin 0 = .ok (.aload_n 0, 1) := by decide +kernel
theorem dX4_begin_1 : decode cX4_begin 1 = .ok (.iconst 0, 1) := by decide +kernel
theorem dX4_begin_2 : decode cX4_begin 2 = .ok (.putfield 18, 3) := by decide +kernel
theorem dX4_begin_5 : decode cX4_begin 5 = .ok (.aload_n 0, 1) := by decide +kernel
theorem dX4_begin_6 : decode cX4_begin 6 = .ok (.iconst 0, 1) := by decide +kernel
theorem dX4_begin_7 : decode cX4_begin 7 = .ok (.bipush 9, 2) := by decide +kernel
theorem dX4_begin_9 : decode cX4_begin 9 = .ok (.invokevirtual 22, 3) := by decide +kernel
theorem dX4_begin_12 : decode cX4_begin 12 = .ok (.aload_n 0, 1) := by decide +kernel
theorem dX4_begin_13 : decode cX4_begin 13 = .ok (.iconst 0, 1) := by decide +kernel
theorem dX4_begin_14 : decode cX4_begin 14 = .ok (.putfield 26, 3) := by decide +kernel
theorem dX4_begin_17 : decode cX4_begin 17 = .ok (.aload_n 0, 1) := by decide +kernel
theorem dX4_begin_18 : decode cX4_begin 18 = .ok (.iconst (-1), 1) := by decide +kernel
theorem dX4_begin_19 : decode cX4_begin 19 = .ok (.putfield 30, 3) := by decide +kernel
theorem dX4_begin_22 : decode cX4_begin 22 = .ok (.return_, 1) := by decide +kernel
theorem dX4_add_0 : decode cX4_add 0 = .ok (.aload_n 0, 1) := by decide +kernel
theorem dX4_add_1 : decode cX4_add 1 = .ok (.getfield 18, 3) := by decide +kernel
theorem dX4_add_4 : decode cX4_add 4 = .ok (.bipush 6, 2) := by decide +kernel
theorem dX4_add_6 : decode cX4_add 6 = .ok (.if_icmp .ge 33, 3) := by decide +kernel
theorem dX4_add_9 : decode cX4_add 9 = .ok (.aload_n 0, 1) := by decide +kernel
theorem dX4_add_10 : decode cX4_add 10 = .ok (.getfield 9, 3) := by decide +kernel
theorem dX4_add_13 : decode cX4_add 13 = .ok (.aload_n 0, 1) := by decide +kernel
theorem dX4_add_14 : decode cX4_add 14 = .ok (.getfield 18, 3) := by decide +kernel
theorem dX4_add_17 : decode cX4_add 17 = .ok (.iload_n 1, 1) := by decide +kernel
theorem dX4_add_18 : decode cX4_add 18 = .ok (.iastore, 1) := by decide +kernel
theorem dX4_add_19 : decode cX4_add 19 = .ok (.aload_n 0, 1) := by decide +kernel
theorem dX4_add_20 : decode cX4_add 20 = .ok (.getfield 15, 3) := by decide +kernel
theorem dX4_add_23 : decode cX4_add 23 = .ok (.aload_n 0, 1) := by decide +kernel
theorem dX4_add_24 : decode cX4_add 24 = .ok (.getfield 18, 3) := by decide +kernel
theorem dX4_add_27 : decode cX4_add 27 = .ok (.iload_n 2, 1) := by decide +kernel
theorem dX4_add_28 : decode cX4_add 28 = .ok (.iastore, 1) := by decide +kernel
theorem dX4_add_29 : decode cX4_add 29 = .ok (.aload_n 0, 1) := by decide +kernel
theorem dX4_add_30 : decode cX4_add 30 = .ok (.dup, 1) := by decide +kernel
theorem dX4_add_31 : decode cX4_add 31 = .ok (.getfield 18, 3) := by decide +kernel
theorem dX4_add_34 : decode cX4_add 34 = .ok (.iconst 1, 1) := by decide +kernel
theorem dX4_add_35 : decode cX4_add 35 = .ok (.iadd, 1) := by decide +kernel
theorem dX4_add_36 : decode cX4_add 36 = .ok (.putfield 18, 3) := by decide +kernel
theorem dX4_add_39 : decode cX4_add 39 = .ok (.return_, 1) := by decide +kernel
theorem dX4_leastExtra_0 : decode cX4_leastExtra 0 = .ok (.iconst (-1), 1) := by decide +kernel
theorem dX4_leastExtra_1 : decode cX4_leastExtra 1 = .ok (.istore_n 2, 1) := by decide +kernel
theorem dX4_leastExtra_2 : decode cX4_leastExtra 2 = .ok (.iconst 0, 1) := by decide +kernel
theorem dX4_leastExtra_3 : decode cX4_leastExtra 3 = .ok (.istore_n 3, 1) := by decide +kernel
theorem dX4_leastExtra_4 : decode cX4_leastExtra 4 = .ok (.iload_n 3, 1) := by decide +kernel
theorem dX4_leastExtra_5 : decode cX4_leastExtra 5 = .ok (.aload_n 0, 1) := by decide +kernel
theorem dX4_leastExtra_6 : decode cX4_leastExtra 6 = .ok (.getfield 18, 3) := by decide +kernel
theorem dX4_leastExtra_9 : decode cX4_leastExtra 9 = .ok (.if_icmp .ge 47, 3) := by decide +kernel
theorem dX4_leastExtra_12 : decode cX4_leastExtra 12 = .ok (.iload_n 3, 1) := by decide +kernel
theorem dX4_leastExtra_13 : decode cX4_leastExtra 13 = .ok (.bipush 6, 2) := by decide +kernel
theorem dX4_leastExtra_15 : decode cX4_leastExtra 15 = .ok (.if_icmp .ge 41, 3) := by decide +kernel
theorem dX4_leastExtra_18 : decode cX4_leastExtra 18 = .ok (.aload_n 0, 1) := by decide +kernel
theorem dX4_leastExtra_19 : decode cX4_leastExtra 19 = .ok (.getfield 15, 3) := by decide +kernel
theorem dX4_leastExtra_22 : decode cX4_leastExtra 22 = .ok (.iload_n 3, 1) := by decide +kernel
theorem dX4_leastExtra_23 : decode cX4_leastExtra 23 = .ok (.iaload, 1) := by decide +kernel
theorem dX4_leastExtra_24 : decode cX4_leastExtra 24 = .ok (.iload_n 1, 1) := by decide +kernel
theorem dX4_leastExtra_25 : decode cX4_leastExtra 25 = .ok (.if_icmp .lt 25, 3) := by decide +kernel
theorem dX4_leastExtra_28 : decode cX4_leastExtra 28 = .ok (.iload_n 2, 1) := by decide +kernel
theorem dX4_leastExtra_29 : decode cX4_leastExtra 29 = .ok (.iconst (-1), 1) := by decide +kernel
theorem dX4_leastExtra_30 : decode cX4_leastExtra 30 = .ok (.if_icmp .eq 13, 3) := by decide +kernel
theorem dX4_leastExtra_33 : decode cX4_leastExtra 33 = .ok (.aload_n 0, 1) := by decide +kernel
theorem dX4_leastExtra_34 : decode cX4_leastExtra 34 = .ok (.getfield 9, 3) := by decide +kernel
theorem dX4_leastExtra_37 : decode cX4_leastExtra 37 = .ok (.iload_n 3, 1) := by decide +kernel
theorem dX4_leastExtra_38 : decode cX4_leastExtra 38 = .ok (.iaload, 1) := by decide +kernel
theorem dX4_leastExtra_39 : decode cX4_leastExtra 39 = .ok (.iload_n 2, 1) := by decide +kernel
theorem dX4_leastExtra_40 : decode cX4_leastExtra 40 = .ok (.if_icmp .ge 10, 3) := by decide +kernel
theorem dX4_leastExtra_43 : decode cX4_leastExtra 43 = .ok (.aload_n 0, 1) := by decide +kernel
theorem dX4_leastExtra_44 : decode cX4_leastExtra 44 = .ok (.getfield 9, 3) := by decide +kernel
theorem dX4_leastExtra_47 : decode cX4_leastExtra 47 = .ok (.iload_n 3, 1) := by decide +kernel
theorem dX4_leastExtra_48 : decode cX4_leastExtra 48 = .ok (.iaload, 1) := by decide +kernel
theorem dX4_leastExtra_49 : decode cX4_leastExtra 49 = .ok (.istore_n 2, 1) := by decide +kernel
theorem dX4_leastExtra_50 : decode cX4_leastExtra 50 = .ok (.iinc 3 1, 3) := by decide +kernel
theorem dX4_leastExtra_53 : decode cX4_leastExtra 53 = .ok (.goto (-49), 3) := by decide +kernel
theorem dX4_leastExtra_56 : decode cX4_leastExtra 56 = .ok (.iload_n 2, 1) := by decide +kernel
theorem dX4_leastExtra_57 : decode cX4_leastExtra 57 = .ok (.ireturn, 1) := by decide +kernel
theorem dX5_init_0 : decode cX5_init 0 = .ok (.aload_n 0, 1) := by decide +kernel
theorem dX5_init_1 : decode cX5_init 1 = .ok (.invokespecial 3, 3) := by decide +kernel
theorem dX5_init_4 : decode cX5_init 4 = .ok (.return_, 1) := by decide +kernel
theorem dX5_begin_0 : decode cX5_begin 0 = .ok (.aload_n 0, 1) := by decide +kernel
theorem dX5_begin_1 : decode cX5_begin 1 = .ok (.aload_n 1, 1) := by decide +kernel
theorem dX5_begin_2 : decode cX5_begin 2 = .ok (.iconst 0, 1) := by decide +kernel
theorem dX5_begin_3 : decode cX5_begin 3 = .ok (.iaload, 1) := by decide +kernel
theorem dX5_begin_4 : decode cX5_begin 4 = .ok (.iconst 1, 1) := by decide +kernel
theorem dX5_begin_5 : decode cX5_begin 5 = .ok (.if_icmp .ne 7, 3) := by decide +kernel
theorem dX5_begin_8 : decode cX5_begin 8 = .ok (.iconst 1, 1) := by decide +kernel
theorem dX5_begin_9 : decode cX5_begin 9 = .ok (.goto 4, 3) := by decide +kernel
theorem dX5_begin_12 : decode cX5_begin 12 = .ok (.iconst 0, 1) := by decide +kernel
theorem dX5_begin_13 : decode cX5_begin 13 = .ok (.putfield 9, 3) := by decide +kernel
theorem dX5_begin_16 : decode cX5_begin 16 = .ok (.aload_n 0, 1) := by decide +kernel
theorem dX5_begin_17 : decode cX5_begin 17 = .ok (.aload_n 1, 1) := by decide +kernel
theorem dX5_begin_18 : decode cX5_begin 18 = .ok (.iconst 1, 1) := by decide +kernel
theorem dX5_begin_19 : decode cX5_begin 19 = .ok (.iaload, 1) := by decide +kernel
theorem dX5_begin_20 : decode cX5_begin 20 = .ok (.putfield 15, 3) := by decide +kernel
theorem dX5_begin_23 : decode cX5_begin 23 = .ok (.aload_n 0, 1) := by decide +kernel
theorem dX5_begin_24 : decode cX5_begin 24 = .ok (.aload_n 1, 1) := by decide +kernel
theorem dX5_begin_25 : decode cX5_begin 25 = .ok (.iconst 2, 1) := by decide +kernel
theorem dX5_begin_26 : decode cX5_begin 26 = .ok (.iaload, 1) := by decide +kernel
theorem dX5_begin_27 : decode cX5_begin 27 = .ok (.putfield 19, 3) := by decide +kernel
theorem dX5_begin_30 : decode cX5_begin 30 = .ok (.aload_n 0, 1) := by decide +kernel
theorem dX5_begin_31 : decode cX5_begin 31 = .ok (.aload_n 1, 1) := by decide +kernel
theorem dX5_begin_32 : decode cX5_begin 32 = .ok (.iconst 3, 1) := by decide +kernel
theorem dX5_begin_33 : decode cX5_begin 33 = .ok (.iaload, 1) := by decide +kernel
theorem dX5_begin_34 : decode cX5_begin 34 = .ok (.putfield 22, 3) := by decide +kernel
theorem dX5_begin_37 : decode cX5_begin 37 = .ok (.aload_n 0, 1) := by decide +kernel
theorem dX5_begin_38 : decode cX5_begin 38 = .ok (.aload_n 1, 1) := by decide +kernel
theorem dX5_begin_39 : decode cX5_begin 39 = .ok (.iconst 4, 1) := by decide +kernel
theorem dX5_begin_40 : decode cX5_begin 40 = .ok (.iaload, 1) := by decide +kernel
theorem dX5_begin_41 : decode cX5_begin 41 = .ok (.putfield 25, 3) := by decide +kernel
theorem dX5_begin_44 : decode cX5_begin 44 = .ok (.aload_n 0, 1) := by decide +kernel
theorem dX5_begin_45 : decode cX5_begin 45 = .ok (.bipush 100, 2) := by decide +kernel
theorem dX5_begin_47 : decode cX5_begin 47 = .ok (.putfield 28, 3) := by decide +kernel
theorem dX5_begin_50 : decode cX5_begin 50 = .ok (.aload_n 0, 1) := by decide +kernel
theorem dX5_begin_51 : decode cX5_begin 51 = .ok (.aload_n 0, 1) := by decide +kernel
theorem dX5_begin_52 : decode cX5_begin 52 = .ok (.getfield 9, 3) := by decide +kernel
theorem dX5_begin_55 : decode cX5_begin 55 = .ok (.ifCond .eq 7, 3) := by decide +kernel
theorem dX5_begin_58 : decode cX5_begin 58 = .ok (.iconst 0, 1) := by decide +kernel
theorem dX5_begin_59 : decode cX5_begin 59 = .ok (.goto 4, 3) := by decide +kernel
theorem dX5_begin_62 : decode cX5_begin 62 = .ok (.iconst (-1), 1) := by decide +kernel
theorem dX5_begin_63 : decode cX5_begin 63 = .ok (.putfield 31, 3) := by decide +kernel
theorem dX5_begin_66 : decode cX5_begin 66 = .ok (.return_, 1) := by decide +kernel
set_option maxRecDepth 20000 in
theorem ggX5_clockAt_J9_floorDiv_f86c9 : GoodIn wsX5_clockAt wsJ9_floorDiv_f86c9 := goodIn_r _ [7] (by decide +kernel) (by decide +kernel)
set_option maxRecDepth 20000 in
theorem gX5_clockAt_J9_floorDiv_f86c9 : GoodIn wsX5_clockAt (va_wsS RX5 36 yJ9_floorDiv_f86c9 wsJ9_floorDiv_f86c9) := goodIn_app (goodIn_of _ (by decide +kernel)) ggX5_clockAt_J9_floorDiv_f86c9
theorem dX5_clockAt_0 : decode cX5_clockAt 0 = .ok (.aload_n 0, 1) := by decide +kernel
theorem dX5_clockAt_1 : decode cX5_clockAt 1 = .ok (.getfield 25, 3) := by decide +kernel
theorem dX5_clockAt_4 : decode cX5_clockAt 4 = .ok (.i2l, 1) := by decide +kernel
theorem dX5_clockAt_5 : decode cX5_clockAt 5 = .ok (.lload_n 1, 1) := by decide +kernel
theorem dX5_clockAt_6 : decode cX5_clockAt 6 = .ok (.ladd, 1) := by decide +kernel
theorem dX5_clockAt_7 : decode cX5_clockAt 7 = .ok (.aload_n 0, 1) := by decide +kernel
theorem dX5_clockAt_8 : decode cX5_clockAt 8 = .ok (.getfield 22, 3) := by decide +kernel
theorem dX5_clockAt_11 : decode cX5_clockAt 11 = .ok (.i2l, 1) := by decide +kernel
theorem dX5_clockAt_12 : decode cX5_clockAt 12 = .ok (.lload_n 1, 1) := by decide +kernel
theorem dX5_clockAt_13 : decode cX5_clockAt 13 = .ok (.lmul, 1) := by decide +kernel
theorem dX5_clockAt_14 : decode cX5_clockAt 14 = .ok (.ldc2_w 34, 3) := by decide +kernel
theorem dX5_clockAt_17 : decode cX5_clockAt 17 = .ok (.invokestatic 36, 3) := by decide +kernel
theorem dX5_clockAt_20 : decode cX5_clockAt 20 = .ok (.ladd, 1) := by decide +kernel
theorem dX5_clockAt_21 : decode cX5_clockAt 21 = .ok (.lreturn, 1) := by decide +kernel
set_option maxRecDepth 20000 in
theorem ggX5_tell_X5_clockAt : GoodIn wsX5_tell wsX5_clockAt := goodIn_r _ [14, 5, 4, 15, 16, 17, 18, 19, 20, 21, 22, 23, 24, 25, 26, 27] (by decide +kernel) (by decide +kernel)
set_option maxRecDepth 20000 in
theorem gX5_tell_X5_clockAt : GoodIn wsX5_tell (wsV RX5 42 RX5 yX5_clockAt wsX5_clockAt) := goodIn_app (goodIn_of _ (by decide +kernel)) ggX5_tell_X5_clockAt
theorem dX5_tell_0 : decode cX5_tell 0 = .ok (.iload_n 1, 1) := by decide +kernel
theorem dX5_tell_1 : decode cX5_tell 1 = .ok (.tableswitch 106 0 8 #[51, 64, 69, 74, 79, 84, 89, 96, 101], 51) := by decide +kernel
theorem dX5_tell_52 : decode cX5_tell 52 = .ok (.aload_n 0, 1) := by decide +kernel
theorem dX5_tell_53 : decode cX5_tell 53 = .ok (.getfield 9, 3) := by decide +kernel
theorem dX5_tell_56 : decode cX5_tell 56 = .ok (.ifCond .eq 7, 3) := by decide +kernel
theorem dX5_tell_59 : decode cX5_tell 59 = .ok (.iconst 1, 1) := by decide +kernel
theorem dX5_tell_60 : decode cX5_tell 60 = .ok (.goto 4, 3) := by decide +kernel
theorem dX5_tell_63 : decode cX5_tell 63 = .ok (.iconst 0, 1) := by decide +kernel
theorem dX5_tell_64 : decode cX5_tell 64 = .ok (.ireturn, 1) := by decide +kernel
theorem dX5_tell_65 : decode cX5_tell 65 = .ok (.aload_n 0, 1) := by decide +kernel
theorem dX5_tell_66 : decode cX5_tell 66 = .ok (.getfield 15, 3) := by decide +kernel
theorem dX5_tell_69 : decode cX5_tell 69 = .ok (.ireturn, 1) := by decide +kernel
theorem dX5_tell_70 : decode cX5_tell 70 = .ok (.aload_n 0, 1) := by decide +kernel
theorem dX5_tell_71 : decode cX5_tell 71 = .ok (.getfield 19, 3) := by decide +kernel
theorem dX5_tell_74 : decode cX5_tell 74 = .ok (.ireturn, 1) := by decide +kernel
theorem dX5_tell_75 : decode cX5_tell 75 = .ok (.aload_n 0, 1) := by decide +kernel
theorem dX5_tell_76 : decode cX5_tell 76 = .ok (.getfield 22, 3) := by decide +kernel
theorem dX5_tell_79 : decode cX5_tell 79 = .ok (.ireturn, 1) := by decide +kernel
theorem dX5_tell_80 : decode cX5_tell 80 = .ok (.aload_n 0, 1) := by decide +kernel
theorem dX5_tell_81 : decode cX5_tell 81 = .ok (.getfield 25, 3) := by decide +kernel
theorem dX5_tell_84 : decode cX5_tell 84 = .ok (.ireturn, 1) := by decide +kernel
theorem dX5_tell_85 : decode cX5_tell 85 = .ok (.aload_n 0, 1) := by decide +kernel
theorem dX5_tell_86 : decode cX5_tell 86 = .ok (.getfield 28, 3) := by decide +kernel
theorem dX5_tell_89 : decode cX5_tell 89 = .ok (.ireturn, 1) := by decide +kernel
theorem dX5_tell_90 : decode cX5_tell 90 = .ok (.aload_n 0, 1) := by decide +kernel
theorem dX5_tell_91 : decode cX5_tell 91 = .ok (.lload_n 2, 1) := by decide +kernel
theorem dX5_tell_92 : decode cX5_tell 92 = .ok (.invokevirtual 42, 3) := by decide +kernel
theorem dX5_tell_95 : decode cX5_tell 95 = .ok (.l2i, 1) := by decide +kernel
theorem dX5_tell_96 : decode cX5_tell 96 = .ok (.ireturn, 1) := by decide +kernel
theorem dX5_tell_97 : decode cX5_tell 97 = .ok (.aload_n 0, 1) := by decide +kernel
theorem dX5_tell_98 : decode cX5_tell 98 = .ok (.getfield 31, 3) := by decide +kernel
theorem dX5_tell_101 : decode cX5_tell 101 = .ok (.ireturn, 1) := by decide +kernel
theorem dX5_tell_102 : decode cX5_tell 102 = .ok (.aload_n 0, 1) := by decide +kernel
theorem dX5_tell_103 : decode cX5_tell 103 = .ok (.getfield 46, 3) := by decide +kernel
theorem dX5_tell_106 : decode cX5_tell 106 = .ok (.ireturn, 1) := by decide +kernel
theorem dX5_tell_107 : decode cX5_tell 107 = .ok (.ldc 49, 2) := by decide +kernel
theorem dX5_tell_109 : decode cX5_tell 109 = .ok (.ireturn, 1) := by decide +kernel
theorem dX6_init_0 : decode cX6_init 0 = .ok (.aload_n 0, 1) := by decide +kernel
theorem dX6_init_1 : decode cX6_init 1 = .ok (.invokespecial 3, 3) := by decide +kernel
theorem dX6_init_4 : decode cX6_init 4 = .ok (.aload_n 0, 1) := by decide +kernel
theorem dX6_init_5 : decode cX6_init 5 = .ok (.bipush 110, 2) := by decide +kernel
theorem dX6_init_7 : decode cX6_init 7 = .ok (.newarray .int, 2) := by decide +kernel
theorem dX6_init_9 : decode cX6_init 9 = .ok (.putfield 9, 3) := by decide +kernel
theorem dX6_init_12 : decode cX6_init 12 = .ok (.return_, 1) := by decide +kernel
theorem dX6_add_0 : decode cX6_add 0 = .ok (.aload_n 0, 1) := by decide +kernel
theorem dX6_add_1 : decode cX6_add 1 = .ok (.getfield 15, 3) := by decide +kernel
theorem dX6_add_4 : decode cX6_add 4 = .ok (.bipush 110, 2) := by decide +kernel
theorem dX6_add_6 : decode cX6_add 6 = .ok (.if_icmp .ge 23, 3) := by decide +kernel
theorem dX6_add_9 : decode cX6_add 9 = .ok (.aload_n 0, 1) := by decide +kernel
theorem dX6_add_10 : decode cX6_add 10 = .ok (.getfield 9, 3) := by decide +kernel
theorem dX6_add_13 : decode cX6_add 13 = .ok (.aload_n 0, 1) := by decide +kernel
theorem dX6_add_14 : decode cX6_add 14 = .ok (.getfield 15, 3) := by decide +kernel
theorem dX6_add_17 : decode cX6_add 17 = .ok (.iload_n 1, 1) := by decide +kernel
theorem dX6_add_18 : decode cX6_add 18 = .ok (.iastore, 1) := by decide +kernel
theorem dX6_add_19 : decode cX6_add 19 = .ok (.aload_n 0, 1) := by decide +kernel
theorem dX6_add_20 : decode cX6_add 20 = .ok (.dup, 1) := by decide +kernel
theorem dX6_add_21 : decode cX6_add 21 = .ok (.getfield 15, 3) := by decide +kernel
theorem dX6_add_24 : decode cX6_add 24 = .ok (.iconst 1, 1) := by decide +kernel
theorem dX6_add_25 : decode cX6_add 25 = .ok (.iadd, 1) := by decide +kernel
theorem dX6_add_26 : decode cX6_add 26 = .ok (.putfield 15, 3) := by decide +kernel
theorem dX6_add_29 : decode cX6_add 29 = .ok (.return_, 1) := by decide +kernel
theorem dX6_clear_0 : decode cX6_clear 0 = .ok (.aload_n 0, 1) := by decide +kernel
theorem dX6_clear_1 : decode cX6_clear 1 = .ok (.iconst 0, 1) := by decide +kernel
theorem dX6_clear_2 : decode cX6_clear 2 = .ok (.putfield 15, 3) := by decide +kernel
theorem dX6_clear_5 : decode cX6_clear 5 = .ok (.return_, 1) := by decide +kernel
theorem dX7_init_0 : decode cX7_init 0 = .ok (.aload_n 0, 1) := by decide +kernel
theorem dX7_init_1 : decode cX7_init 1 = .ok (.invokespecial 3, 3) := by decide +kernel
theorem dX7_init_4 : decode cX7_init 4 = .ok (.return_, 1) := by decide +kernel
theorem dX7_tell_0 : decode cX7_tell 0 = .ok (.iload_n 1, 1) := by decide +kernel
theorem dX7_tell_1 : decode cX7_tell 1 = .ok (.tableswitch 60 0 4 #[35, 40, 45, 50, 55], 35) := by decide +kernel
theorem dX7_tell_36 : decode cX7_tell 36 = .ok (.aload_n 0, 1) := by decide +kernel
theorem dX7_tell_37 : decode cX7_tell 37 = .ok (.getfield 9, 3) := by decide +kernel
theorem dX7_tell_40 : decode cX7_tell 40 = .ok (.ireturn, 1) := by decide +kernel
theorem dX7_tell_41 : decode cX7_tell 41 = .ok (.aload_n 0, 1) := by decide +kernel
theorem dX7_tell_42 : decode cX7_tell 42 = .ok (.getfield 15, 3) := by decide +kernel
theorem dX7_tell_45 : decode cX7_tell 45 = .ok (.ireturn, 1) := by decide +kernel
theorem dX7_tell_46 : decode cX7_tell 46 = .ok (.aload_n 0, 1) := by decide +kernel
theorem dX7_tell_47 : decode cX7_tell 47 = .ok (.getfield 18, 3) := by decide +kernel
theorem dX7_tell_50 : decode cX7_tell 50 = .ok (.ireturn, 1) := by decide +kernel
theorem dX7_tell_51 : decode cX7_tell 51 = .ok (.aload_n 0, 1) := by decide +kernel
theorem dX7_tell_52 : decode cX7_tell 52 = .ok (.getfield 21, 3) := by decide +kernel
theorem dX7_tell_55 : decode cX7_tell 55 = .ok (.ireturn, 1) := by decide +kernel
theorem dX7_tell_56 : decode cX7_tell 56 = .ok (.aload_n 0, 1) := by decide +kernel
theorem dX7_tell_57 : decode cX7_tell 57 = .ok (.getfield 24, 3) := by decide +kernel
theorem dX7_tell_60 : decode cX7_tell 60 = .ok (.ireturn, 1) := by decide +kernel
theorem dX7_tell_61 : decode cX7_tell 61 = .ok (.ldc 27, 2) := by decide +kernel
theorem dX7_tell_63 : decode cX7_tell 63 = .ok (.ireturn, 1) := by decide +kernel
theorem dX8_init_0 : decode cX8_init 0 = .ok (.aload_n 0, 1) := by decide +kernel
theorem dX8_init_1 : decode cX8_init 1 = .ok (.invokespecial 3, 3) := by decide +kernel
theorem dX8_init_4 : decode cX8_init 4 = .ok (.aload_n 0, 1) := by decide +kernel
theorem dX8_init_5 : decode cX8_init 5 = .ok (.bipush 7, 2) := by decide +kernel
theorem dX8_init_7 : decode cX8_init 7 = .ok (.iconst 5, 1) := by decide +kernel
theorem dX8_init_8 : decode cX8_init 8 = .ok (.multianewarray 9 2, 4) := by decide +kernel
theorem dX8_init_12 : decode cX8_init 12 = .ok (.putfield 11, 3) := by decide +kernel
theorem dX8_init_15 : decode cX8_init 15 = .ok (.return_, 1) := by decide +kernel
theorem dX8_nodeCount_0 : decode cX8_nodeCount 0 = .ok (.aload_n 0, 1) := by decide +kernel
theorem dX8_nodeCount_1 : decode cX8_nodeCount 1 = .ok (.getfield 16, 3) := by decide +kernel
theorem dX8_nodeCount_4 : decode cX8_nodeCount 4 = .ok (.iconst 1, 1) := by decide +kernel
theorem dX8_nodeCount_5 : decode cX8_nodeCount 5 = .ok (.iadd, 1) := by decide +kernel
theorem dX8_nodeCount_6 : decode cX8_nodeCount 6 = .ok (.ireturn, 1) := by decide +kernel
set_option maxRecDepth 20000 in
theorem ggX8_read_X8_begin : GoodIn wsX8_read wsX8_begin := goodIn_r _ [9, 10, 11, 12, 1, 34, 35, 36, 37, 38, 39] (by decide +kernel) (by decide +kernel)
set_option maxRecDepth 20000 in
theorem gX8_read_X8_begin : GoodIn wsX8_read (wsV RX8 23 RX8 yX8_begin wsX8_begin) := goodIn_app (goodIn_of _ (by decide +kernel)) ggX8_read_X8_begin
set_option maxRecDepth 20000 in
theorem ggX8_read_X8_takes : GoodIn wsX8_read wsX8_takes := goodIn_r _ [16, 10, 11, 17, 18, 19, 8, 20, 2, 12, 1, 5, 6, 7, 9, 21, 22, 23, 24, 25, 26, 27, 28, 29, 30, 31, 32, 33, 34, 35, 36, 37, 38, 39] (by decide +kernel) (by decide +kernel)
set_option maxRecDepth 20000 in
theorem gX8_read_X8_takes : GoodIn wsX8_read (wsV RX8 36 RX8 yX8_takes wsX8_takes) := goodIn_app (goodIn_of _ (by decide +kernel)) ggX8_read_X8_takes
theorem dX8_read_0 : decode cX8_read 0 = .ok (.aload_n 0, 1) := by decide +kernel
theorem dX8_read_1 : decode cX8_read 1 = .ok (.iconst 0, 1) := by decide +kernel
theorem dX8_read_2 : decode cX8_read 2 = .ok (.putfield 16, 3) := by decide +kernel
theorem dX8_read_5 : decode cX8_read 5 = .ok (.aload_n 0, 1) := by decide +kernel
theorem dX8_read_6 : decode cX8_read 6 = .ok (.iconst 0, 1) := by decide +kernel
theorem dX8_read_7 : decode cX8_read 7 = .ok (.putfield 20, 3) := by decide +kernel
theorem dX8_read_10 : decode cX8_read 10 = .ok (.aload_n 0, 1) := by decide +kernel
theorem dX8_read_11 : decode cX8_read 11 = .ok (.iconst 0, 1) := by decide +kernel
theorem dX8_read_12 : decode cX8_read 12 = .ok (.invokevirtual 23, 3) := by decide +kernel
theorem dX8_read_15 : decode cX8_read 15 = .ok (.iconst 0, 1) := by decide +kernel
theorem dX8_read_16 : decode cX8_read 16 = .ok (.istore_n 2, 1) := by decide +kernel
theorem dX8_read_17 : decode cX8_read 17 = .ok (.iload_n 2, 1) := by decide +kernel
theorem dX8_read_18 : decode cX8_read 18 = .ok (.aload_n 1, 1) := by decide +kernel
theorem dX8_read_19 : decode cX8_read 19 = .ok (.getfield 27, 3) := by decide +kernel
theorem dX8_read_22 : decode cX8_read 22 = .ok (.if_icmp .ge 24, 3) := by decide +kernel
theorem dX8_read_25 : decode cX8_read 25 = .ok (.aload_n 0, 1) := by decide +kernel
theorem dX8_read_26 : decode cX8_read 26 = .ok (.aload_n 1, 1) := by decide +kernel
theorem dX8_read_27 : decode cX8_read 27 = .ok (.getfield 32, 3) := by decide +kernel
theorem dX8_read_30 : decode cX8_read 30 = .ok (.iload_n 2, 1) := by decide +kernel
theorem dX8_read_31 : decode cX8_read 31 = .ok (.iaload, 1) := by decide +kernel
theorem dX8_read_32 : decode cX8_read 32 = .ok (.invokevirtual 36, 3) := by decide +kernel
theorem dX8_read_35 : decode cX8_read 35 = .ok (.ifCond .ne 5, 3) := by decide +kernel
theorem dX8_read_38 : decode cX8_read 38 = .ok (.iload_n 2, 1) := by decide +kernel
theorem dX8_read_39 : decode cX8_read 39 = .ok (.ireturn, 1) := by decide +kernel
theorem dX8_read_40 : decode cX8_read 40 = .ok (.iinc 2 1, 3) := by decide +kernel
theorem dX8_read_43 : decode cX8_read 43 = .ok (.goto (-26), 3) := by decide +kernel
theorem dX8_read_46 : decode cX8_read 46 = .ok (.aload_n 1, 1) := by decide +kernel
theorem dX8_read_47 : decode cX8_read 47 = .ok (.getfield 27, 3) := by decide +kernel
theorem dX8_read_50 : decode cX8_read 50 = .ok (.ireturn, 1) := by decide +kernel
set_option maxRecDepth 20000 in
theorem ggX8_hasWholeField_X8_nodeCount : GoodIn wsX8_hasWholeField wsX8_nodeCount := goodIn_r _ [8, 9, 10, 11, 12, 13, 14, 15] (by decide +kernel) (by decide +kernel)
set_option maxRecDepth 20000 in
theorem gX8_hasWholeField_X8_nodeCount : GoodIn wsX8_hasWholeField (wsV RX8 46 RX8 yX8_nodeCount wsX8_nodeCount) := goodIn_app (goodIn_of _ (by decide +kernel)) ggX8_hasWholeField_X8_nodeCount
theorem dX8_hasWholeField_0 : decode cX8_hasWholeField 0 = .ok (.aload_n 0, 1) := by decide +kernel
theorem dX8_hasWholeField_1 : decode cX8_hasWholeField 1 = .ok (.getfield 40, 3) := by decide +kernel
theorem dX8_hasWholeField_4 : decode cX8_hasWholeField 4 = .ok (.iconst 4, 1) := by decide +kernel
theorem dX8_hasWholeField_5 : decode cX8_hasWholeField 5 = .ok (.if_icmp .ne 32, 3) := by decide +kernel
theorem dX8_hasWholeField_8 : decode cX8_hasWholeField 8 = .ok (.aload_n 0, 1) := by decide +kernel
theorem dX8_hasWholeField_9 : decode cX8_hasWholeField 9 = .ok (.getfield 43, 3) := by decide +kernel
theorem dX8_hasWholeField_12 : decode cX8_hasWholeField 12 = .ok (.ifCond .le 25, 3) := by decide +kernel
theorem dX8_hasWholeField_15 : decode cX8_hasWholeField 15 = .ok (.aload_n 0, 1) := by decide +kernel
theorem dX8_hasWholeField_16 : decode cX8_hasWholeField 16 = .ok (.getfield 20, 3) := by decide +kernel
theorem dX8_hasWholeField_19 : decode cX8_hasWholeField 19 = .ok (.ifCond .le 18, 3) := by decide +kernel
theorem dX8_hasWholeField_22 : decode cX8_hasWholeField 22 = .ok (.aload_n 0, 1) := by decide +kernel
theorem dX8_hasWholeField_23 : decode cX8_hasWholeField 23 = .ok (.getfield 20, 3) := by decide +kernel
theorem dX8_hasWholeField_26 : decode cX8_hasWholeField 26 = .ok (.aload_n 0, 1) := by decide +kernel
theorem dX8_hasWholeField_27 : decode cX8_hasWholeField 27 = .ok (.invokevirtual 46, 3) := by decide +kernel
theorem dX8_hasWholeField_30 : decode cX8_hasWholeField 30 = .ok (.if_icmp .ge 7, 3) := by decide +kernel
theorem dX8_hasWholeField_33 : decode cX8_hasWholeField 33 = .ok (.iconst 1, 1) := by decide +kernel
theorem dX8_hasWholeField_34 : decode cX8_hasWholeField 34 = .ok (.goto 4, 3) := by decide +kernel
theorem dX8_hasWholeField_37 : decode cX8_hasWholeField 37 = .ok (.iconst 0, 1) := by decide +kernel
theorem dX8_hasWholeField_38 : decode cX8_hasWholeField 38 = .ok (.ireturn, 1) := by decide +kernel
theorem dX8_begin_0 : decode cX8_begin 0 = .ok (.aload_n 0, 1) := by decide +kernel
theorem dX8_begin_1 : decode cX8_begin 1 = .ok (.iload_n 1, 1) := by decide +kernel
theorem dX8_begin_2 : decode cX8_begin 2 = .ok (.putfield 40, 3) := by decide +kernel
theorem dX8_begin_5 : decode cX8_begin 5 = .ok (.aload_n 0, 1) := by decide +kernel
theorem dX8_begin_6 : decode cX8_begin 6 = .ok (.iconst 0, 1) := by decide +kernel
theorem dX8_begin_7 : decode cX8_begin 7 = .ok (.putfield 43, 3) := by decide +kernel
theorem dX8_begin_10 : decode cX8_begin 10 = .ok (.aload_n 0, 1) := by decide +kernel
theorem dX8_begin_11 : decode cX8_begin 11 = .ok (.getfield 11, 3) := by decide +kernel
theorem dX8_begin_14 : decode cX8_begin 14 = .ok (.aload_n 0, 1) := by decide +kernel
theorem dX8_begin_15 : decode cX8_begin 15 = .ok (.getfield 16, 3) := by decide +kernel
theorem dX8_begin_18 : decode cX8_begin 18 = .ok (.aaload, 1) := by decide +kernel
theorem dX8_begin_19 : decode cX8_begin 19 = .ok (.iload_n 1, 1) := by decide +kernel
theorem dX8_begin_20 : decode cX8_begin 20 = .ok (.iconst 0, 1) := by decide +kernel
theorem dX8_begin_21 : decode cX8_begin 21 = .ok (.iastore, 1) := by decide +kernel
theorem dX8_begin_22 : decode cX8_begin 22 = .ok (.return_, 1) := by decide +kernel
set_option maxRecDepth 20000 in
theorem ggX8_takes_X8_takesKind : GoodIn wsX8_takes wsX8_takesKind := goodIn_r _ [7, 8, 9, 10, 11, 12, 13, 6, 14, 1, 2, 28, 29, 30, 31, 32, 33] (by decide +kernel) (by decide +kernel)
set_option maxRecDepth 20000 in
theorem gX8_takes_X8_takesKind : GoodIn wsX8_takes (wsV RX8 50 RX8 yX8_takesKind wsX8_takesKind) := goodIn_app (goodIn_of _ (by decide +kernel)) ggX8_takes_X8_takesKind
set_option maxRecDepth 20000 in
theorem ggX8_takes_X8_takesFigure : GoodIn wsX8_takes wsX8_takesFigure := goodIn_r _ [18, 9, 10, 1, 2, 28, 29, 30, 31, 32, 33] (by decide +kernel) (by decide +kernel)
set_option maxRecDepth 20000 in
theorem gX8_takes_X8_takesFigure : GoodIn wsX8_takes (wsV RX8 53 RX8 yX8_takesFigure wsX8_takesFigure) := goodIn_app (goodIn_of _ (by decide +kernel)) ggX8_takes_X8_takesFigure
set_option maxRecDepth 20000 in
theorem ggX8_takes_X8_takesMark : GoodIn wsX8_takes wsX8_takesMark := goodIn_r _ [22, 1, 23, 9, 10, 11, 12, 13, 6, 14, 2, 24, 25, 26, 27, 28, 29, 30, 31, 32, 33] (by decide +kernel) (by decide +kernel)
set_option maxRecDepth 20000 in
theorem gX8_takes_X8_takesMark : GoodIn wsX8_takes (wsV RX8 56 RX8 yX8_takesMark wsX8_takesMark) := goodIn_app (goodIn_of _ (by decide +kernel)) ggX8_takes_X8_takesMark
theorem dX8_takes_0 : decode cX8_takes 0 = .ok (.aload_n 0, 1) := by decide +kernel
theorem dX8_takes_1 : decode cX8_takes 1 = .ok (.getfield 40, 3) := by decide +kernel
theorem dX8_takes_4 : decode cX8_takes 4 = .ok (.ifCond .ne 9, 3) := by decide +kernel
theorem dX8_takes_7 : decode cX8_takes 7 = .ok (.aload_n 0, 1) := by decide +kernel
theorem dX8_takes_8 : decode cX8_takes 8 = .ok (.iload_n 1, 1) := by decide +kernel
theorem dX8_takes_9 : decode cX8_takes 9 = .ok (.invokevirtual 50, 3) := by decide +kernel
theorem dX8_takes_12 : decode cX8_takes 12 = .ok (.ireturn, 1) := by decide +kernel
theorem dX8_takes_13 : decode cX8_takes 13 = .ok (.iload_n 1, 1) := by decide +kernel
theorem dX8_takes_14 : decode cX8_takes 14 = .ok (.bipush 48, 2) := by decide +kernel
theorem dX8_takes_16 : decode cX8_takes 16 = .ok (.if_icmp .lt 18, 3) := by decide +kernel
theorem dX8_takes_19 : decode cX8_takes 19 = .ok (.iload_n 1, 1) := by decide +kernel
theorem dX8_takes_20 : decode cX8_takes 20 = .ok (.bipush 57, 2) := by decide +kernel
theorem dX8_takes_22 : decode cX8_takes 22 = .ok (.if_icmp .gt 12, 3) := by decide +kernel
theorem dX8_takes_25 : decode cX8_takes 25 = .ok (.aload_n 0, 1) := by decide +kernel
theorem dX8_takes_26 : decode cX8_takes 26 = .ok (.iload_n 1, 1) := by decide +kernel
theorem dX8_takes_27 : decode cX8_takes 27 = .ok (.bipush 48, 2) := by decide +kernel
theorem dX8_takes_29 : decode cX8_takes 29 = .ok (.isub, 1) := by decide +kernel
theorem dX8_takes_30 : decode cX8_takes 30 = .ok (.invokevirtual 53, 3) := by decide +kernel
theorem dX8_takes_33 : decode cX8_takes 33 = .ok (.ireturn, 1) := by decide +kernel
theorem dX8_takes_34 : decode cX8_takes 34 = .ok (.aload_n 0, 1) := by decide +kernel
theorem dX8_takes_35 : decode cX8_takes 35 = .ok (.getfield 43, 3) := by decide +kernel
theorem dX8_takes_38 : decode cX8_takes 38 = .ok (.ifCond .le 15, 3) := by decide +kernel
theorem dX8_takes_41 : decode cX8_takes 41 = .ok (.aload_n 0, 1) := by decide +kernel
theorem dX8_takes_42 : decode cX8_takes 42 = .ok (.iload_n 1, 1) := by decide +kernel
theorem dX8_takes_43 : decode cX8_takes 43 = .ok (.invokevirtual 56, 3) := by decide +kernel
theorem dX8_takes_46 : decode cX8_takes 46 = .ok (.ifCond .eq 7, 3) := by decide +kernel
theorem dX8_takes_49 : decode cX8_takes 49 = .ok (.iconst 1, 1) := by decide +kernel
theorem dX8_takes_50 : decode cX8_takes 50 = .ok (.goto 4, 3) := by decide +kernel
theorem dX8_takes_53 : decode cX8_takes 53 = .ok (.iconst 0, 1) := by decide +kernel
theorem dX8_takes_54 : decode cX8_takes 54 = .ok (.ireturn, 1) := by decide +kernel
set_option maxRecDepth 20000 in
theorem ggX8_takesKind_X8_begin : GoodIn wsX8_takesKind wsX8_begin := goodIn_r _ [8, 9, 10, 2, 3, 11, 12, 13, 14, 15, 16] (by decide +kernel) (by decide +kernel)
set_option maxRecDepth 20000 in
theorem gX8_takesKind_X8_begin : GoodIn wsX8_takesKind (wsV RX8 23 RX8 yX8_begin wsX8_begin) := goodIn_app (goodIn_of _ (by decide +kernel)) ggX8_takesKind_X8_begin
theorem dX8_takesKind_0 : decode cX8_takesKind 0 = .ok (.iload_n 1, 1) := by decide +kernel
theorem dX8_takesKind_1 : decode cX8_takesKind 1 = .ok (.bipush 116, 2) := by decide +kernel
theorem dX8_takesKind_3 : decode cX8_takesKind 3 = .ok (.if_icmp .ne 36, 3) := by decide +kernel
theorem dX8_takesKind_6 : decode cX8_takesKind 6 = .ok (.aload_n 0, 1) := by decide +kernel
theorem dX8_takesKind_7 : decode cX8_takesKind 7 = .ok (.getfield 20, 3) := by decide +kernel
theorem dX8_takesKind_10 : decode cX8_takesKind 10 = .ok (.iconst 4, 1) := by decide +kernel
theorem dX8_takesKind_11 : decode cX8_takesKind 11 = .ok (.if_icmp .ge 28, 3) := by decide +kernel
theorem dX8_takesKind_14 : decode cX8_takesKind 14 = .ok (.aload_n 0, 1) := by decide +kernel
theorem dX8_takesKind_15 : decode cX8_takesKind 15 = .ok (.dup, 1) := by decide +kernel
theorem dX8_takesKind_16 : decode cX8_takesKind 16 = .ok (.getfield 20, 3) := by decide +kernel
theorem dX8_takesKind_19 : decode cX8_takesKind 19 = .ok (.iconst 1, 1) := by decide +kernel
theorem dX8_takesKind_20 : decode cX8_takesKind 20 = .ok (.iadd, 1) := by decide +kernel
theorem dX8_takesKind_21 : decode cX8_takesKind 21 = .ok (.putfield 20, 3) := by decide +kernel
theorem dX8_takesKind_24 : decode cX8_takesKind 24 = .ok (.aload_n 0, 1) := by decide +kernel
theorem dX8_takesKind_25 : decode cX8_takesKind 25 = .ok (.getfield 11, 3) := by decide +kernel
theorem dX8_takesKind_28 : decode cX8_takesKind 28 = .ok (.aload_n 0, 1) := by decide +kernel
theorem dX8_takesKind_29 : decode cX8_takesKind 29 = .ok (.getfield 16, 3) := by decide +kernel
theorem dX8_takesKind_32 : decode cX8_takesKind 32 = .ok (.aaload, 1) := by decide +kernel
theorem dX8_takesKind_33 : decode cX8_takesKind 33 = .ok (.iconst 0, 1) := by decide +kernel
theorem dX8_takesKind_34 : decode cX8_takesKind 34 = .ok (.iconst 1, 1) := by decide +kernel
theorem dX8_takesKind_35 : decode cX8_takesKind 35 = .ok (.iastore, 1) := by decide +kernel
theorem dX8_takesKind_36 : decode cX8_takesKind 36 = .ok (.goto 11, 3) := by decide +kernel
theorem dX8_takesKind_39 : decode cX8_takesKind 39 = .ok (.iload_n 1, 1) := by decide +kernel
theorem dX8_takesKind_40 : decode cX8_takesKind 40 = .ok (.bipush 97, 2) := by decide +kernel
theorem dX8_takesKind_42 : decode cX8_takesKind 42 = .ok (.if_icmp .eq 5, 3) := by decide +kernel
theorem dX8_takesKind_45 : decode cX8_takesKind 45 = .ok (.iconst 0, 1) := by decide +kernel
theorem dX8_takesKind_46 : decode cX8_takesKind 46 = .ok (.ireturn, 1) := by decide +kernel
theorem dX8_takesKind_47 : decode cX8_takesKind 47 = .ok (.aload_n 0, 1) := by decide +kernel
theorem dX8_takesKind_48 : decode cX8_takesKind 48 = .ok (.iconst 1, 1) := by decide +kernel
theorem dX8_takesKind_49 : decode cX8_takesKind 49 = .ok (.invokevirtual 23, 3) := by decide +kernel
theorem dX8_takesKind_52 : decode cX8_takesKind 52 = .ok (.iconst 1, 1) := by decide +kernel
theorem dX8_takesKind_53 : decode cX8_takesKind 53 = .ok (.ireturn, 1) := by decide +kernel
theorem dX8_takesFigure_0 : decode cX8_takesFigure 0 = .ok (.aload_n 0, 1) := by decide +kernel
theorem dX8_takesFigure_1 : decode cX8_takesFigure 1 = .ok (.getfield 11, 3) := by decide +kernel
theorem dX8_takesFigure_4 : decode cX8_takesFigure 4 = .ok (.aload_n 0, 1) := by decide +kernel
theorem dX8_takesFigure_5 : decode cX8_takesFigure 5 = .ok (.getfield 16, 3) := by decide +kernel
theorem dX8_takesFigure_8 : decode cX8_takesFigure 8 = .ok (.aaload, 1) := by decide +kernel
theorem dX8_takesFigure_9 : decode cX8_takesFigure 9 = .ok (.aload_n 0, 1) := by decide +kernel
theorem dX8_takesFigure_10 : decode cX8_takesFigure 10 = .ok (.getfield 40, 3) := by decide +kernel
theorem dX8_takesFigure_13 : decode cX8_takesFigure 13 = .ok (.iaload, 1) := by decide +kernel
theorem dX8_takesFigure_14 : decode cX8_takesFigure 14 = .ok (.istore_n 2, 1) := by decide +kernel
theorem dX8_takesFigure_15 : decode cX8_takesFigure 15 = .ok (.aload_n 0, 1) := by decide +kernel
theorem dX8_takesFigure_16 : decode cX8_takesFigure 16 = .ok (.getfield 43, 3) := by decide +kernel
theorem dX8_takesFigure_19 : decode cX8_takesFigure 19 = .ok (.ifCond .le 11, 3) := by decide +kernel
theorem dX8_takesFigure_22 : decode cX8_takesFigure 22 = .ok (.iload_n 2, 1) := by decide +kernel
theorem dX8_takesFigure_23 : decode cX8_takesFigure 23 = .ok (.ifCond .ne 7, 3) := by decide +kernel
theorem dX8_takesFigure_26 : decode cX8_takesFigure 26 = .ok (.iconst 1, 1) := by decide +kernel
theorem dX8_takesFigure_27 : decode cX8_takesFigure 27 = .ok (.goto 4, 3) := by decide +kernel
theorem dX8_takesFigure_30 : decode cX8_takesFigure 30 = .ok (.iconst 0, 1) := by decide +kernel
theorem dX8_takesFigure_31 : decode cX8_takesFigure 31 = .ok (.istore_n 3, 1) := by decide +kernel
theorem dX8_takesFigure_32 : decode cX8_takesFigure 32 = .ok (.bipush 10, 2) := by decide +kernel
theorem dX8_takesFigure_34 : decode cX8_takesFigure 34 = .ok (.iload_n 2, 1) := by decide +kernel
theorem dX8_takesFigure_35 : decode cX8_takesFigure 35 = .ok (.imul, 1) := by decide +kernel
theorem dX8_takesFigure_36 : decode cX8_takesFigure 36 = .ok (.iload_n 1, 1) := by decide +kernel
theorem dX8_takesFigure_37 : decode cX8_takesFigure 37 = .ok (.iadd, 1) := by decide +kernel
theorem dX8_takesFigure_38 : decode cX8_takesFigure 38 = .ok (.istore 4, 2) := by decide +kernel
theorem dX8_takesFigure_40 : decode cX8_takesFigure 40 = .ok (.iload_n 3, 1) := by decide +kernel
theorem dX8_takesFigure_41 : decode cX8_takesFigure 41 = .ok (.ifCond .ne 16, 3) := by decide +kernel
theorem dX8_takesFigure_44 : decode cX8_takesFigure 44 = .ok (.iload 4, 2) := by decide +kernel
theorem dX8_takesFigure_46 : decode cX8_takesFigure 46 = .ok (.getstatic 59, 3) := by decide +kernel
theorem dX8_takesFigure_49 : decode cX8_takesFigure 49 = .ok (.aload_n 0, 1) := by decide +kernel
theorem dX8_takesFigure_50 : decode cX8_takesFigure 50 = .ok (.getfield 40, 3) := by decide +kernel
theorem dX8_takesFigure_53 : decode cX8_takesFigure 53 = .ok (.iaload, 1) := by decide +kernel
theorem dX8_takesFigure_54 : decode cX8_takesFigure 54 = .ok (.if_icmp .le 5, 3) := by decide +kernel
theorem dX8_takesFigure_57 : decode cX8_takesFigure 57 = .ok (.iconst 0, 1) := by decide +kernel
theorem dX8_takesFigure_58 : decode cX8_takesFigure 58 = .ok (.ireturn, 1) := by decide +kernel
theorem dX8_takesFigure_59 : decode cX8_takesFigure 59 = .ok (.aload_n 0, 1) := by decide +kernel
theorem dX8_takesFigure_60 : decode cX8_takesFigure 60 = .ok (.getfield 11, 3) := by decide +kernel
theorem dX8_takesFigure_63 : decode cX8_takesFigure 63 = .ok (.aload_n 0, 1) := by decide +kernel
theorem dX8_takesFigure_64 : decode cX8_takesFigure 64 = .ok (.getfield 16, 3) := by decide +kernel
theorem dX8_takesFigure_67 : decode cX8_takesFigure 67 = .ok (.aaload, 1) := by decide +kernel
theorem dX8_takesFigure_68 : decode cX8_takesFigure 68 = .ok (.aload_n 0, 1) := by decide +kernel
theorem dX8_takesFigure_69 : decode cX8_takesFigure 69 = .ok (.getfield 40, 3) := by decide +kernel
theorem dX8_takesFigure_72 : decode cX8_takesFigure 72 = .ok (.iload 4, 2) := by decide +kernel
theorem dX8_takesFigure_74 : decode cX8_takesFigure 74 = .ok (.iastore, 1) := by decide +kernel
theorem dX8_takesFigure_75 : decode cX8_takesFigure 75 = .ok (.aload_n 0, 1) := by decide +kernel
theorem dX8_takesFigure_76 : decode cX8_takesFigure 76 = .ok (.dup, 1) := by decide +kernel
theorem dX8_takesFigure_77 : decode cX8_takesFigure 77 = .ok (.getfield 43, 3) := by decide +kernel
theorem dX8_takesFigure_80 : decode cX8_takesFigure 80 = .ok (.iconst 1, 1) := by decide +kernel
theorem dX8_takesFigure_81 : decode cX8_takesFigure 81 = .ok (.iadd, 1) := by decide +kernel
theorem dX8_takesFigure_82 : decode cX8_takesFigure 82 = .ok (.putfield 43, 3) := by decide +kernel
theorem dX8_takesFigure_85 : decode cX8_takesFigure 85 = .ok (.iconst 1, 1) := by decide +kernel
theorem dX8_takesFigure_86 : decode cX8_takesFigure 86 = .ok (.ireturn, 1) := by decide +kernel
set_option maxRecDepth 20000 in
theorem ggX8_takesMark_X8_begin : GoodIn wsX8_takesMark wsX8_begin := goodIn_r _ [9, 1, 10, 3, 4, 15, 16, 17, 18, 19, 20] (by decide +kernel) (by decide +kernel)
set_option maxRecDepth 20000 in
theorem gX8_takesMark_X8_begin : GoodIn wsX8_takesMark (wsV RX8 23 RX8 yX8_begin wsX8_begin) := goodIn_app (goodIn_of _ (by decide +kernel)) ggX8_takesMark_X8_begin
set_option maxRecDepth 20000 in
theorem ggX8_takesMark_X8_nodeCount : GoodIn wsX8_takesMark wsX8_nodeCount := goodIn_r _ [14, 4, 15, 16, 17, 18, 19, 20] (by decide +kernel) (by decide +kernel)
set_option maxRecDepth 20000 in
theorem gX8_takesMark_X8_nodeCount : GoodIn wsX8_takesMark (wsV RX8 46 RX8 yX8_nodeCount wsX8_nodeCount) := goodIn_app (goodIn_of _ (by decide +kernel)) ggX8_takesMark_X8_nodeCount
theorem dX8_takesMark_0 : decode cX8_takesMark 0 = .ok (.aload_n 0, 1) := by decide +kernel
theorem dX8_takesMark_1 : decode cX8_takesMark 1 = .ok (.getfield 40, 3) := by decide +kernel
theorem dX8_takesMark_4 : decode cX8_takesMark 4 = .ok (.iconst 1, 1) := by decide +kernel
theorem dX8_takesMark_5 : decode cX8_takesMark 5 = .ok (.if_icmp .ne 16, 3) := by decide +kernel
theorem dX8_takesMark_8 : decode cX8_takesMark 8 = .ok (.iload_n 1, 1) := by decide +kernel
theorem dX8_takesMark_9 : decode cX8_takesMark 9 = .ok (.bipush 44, 2) := by decide +kernel
theorem dX8_takesMark_11 : decode cX8_takesMark 11 = .ok (.if_icmp .ne 10, 3) := by decide +kernel
theorem dX8_takesMark_14 : decode cX8_takesMark 14 = .ok (.aload_n 0, 1) := by decide +kernel
theorem dX8_takesMark_15 : decode cX8_takesMark 15 = .ok (.iconst 2, 1) := by decide +kernel
theorem dX8_takesMark_16 : decode cX8_takesMark 16 = .ok (.invokevirtual 23, 3) := by decide +kernel
theorem dX8_takesMark_19 : decode cX8_takesMark 19 = .ok (.iconst 1, 1) := by decide +kernel
theorem dX8_takesMark_20 : decode cX8_takesMark 20 = .ok (.ireturn, 1) := by decide +kernel
theorem dX8_takesMark_21 : decode cX8_takesMark 21 = .ok (.aload_n 0, 1) := by decide +kernel
theorem dX8_takesMark_22 : decode cX8_takesMark 22 = .ok (.getfield 40, 3) := by decide +kernel
theorem dX8_takesMark_25 : decode cX8_takesMark 25 = .ok (.iconst 2, 1) := by decide +kernel
theorem dX8_takesMark_26 : decode cX8_takesMark 26 = .ok (.if_icmp .ne 37, 3) := by decide +kernel
theorem dX8_takesMark_29 : decode cX8_takesMark 29 = .ok (.iload_n 1, 1) := by decide +kernel
theorem dX8_takesMark_30 : decode cX8_takesMark 30 = .ok (.bipush 43, 2) := by decide +kernel
theorem dX8_takesMark_32 : decode cX8_takesMark 32 = .ok (.if_icmp .eq 9, 3) := by decide +kernel
theorem dX8_takesMark_35 : decode cX8_takesMark 35 = .ok (.iload_n 1, 1) := by decide +kernel
theorem dX8_takesMark_36 : decode cX8_takesMark 36 = .ok (.bipush 45, 2) := by decide +kernel
theorem dX8_takesMark_38 : decode cX8_takesMark 38 = .ok (.if_icmp .ne 25, 3) := by decide +kernel
theorem dX8_takesMark_41 : decode cX8_takesMark 41 = .ok (.aload_n 0, 1) := by decide +kernel
theorem dX8_takesMark_42 : decode cX8_takesMark 42 = .ok (.iload_n 1, 1) := by decide +kernel
theorem dX8_takesMark_43 : decode cX8_takesMark 43 = .ok (.bipush 45, 2) := by decide +kernel
theorem dX8_takesMark_45 : decode cX8_takesMark 45 = .ok (.if_icmp .ne 7, 3) := by decide +kernel
theorem dX8_takesMark_48 : decode cX8_takesMark 48 = .ok (.iconst 1, 1) := by decide +kernel
theorem dX8_takesMark_49 : decode cX8_takesMark 49 = .ok (.goto 4, 3) := by decide +kernel
theorem dX8_takesMark_52 : decode cX8_takesMark 52 = .ok (.iconst 0, 1) := by decide +kernel
theorem dX8_takesMark_53 : decode cX8_takesMark 53 = .ok (.putfield 62, 3) := by decide +kernel
theorem dX8_takesMark_56 : decode cX8_takesMark 56 = .ok (.aload_n 0, 1) := by decide +kernel
theorem dX8_takesMark_57 : decode cX8_takesMark 57 = .ok (.iconst 3, 1) := by decide +kernel
theorem dX8_takesMark_58 : decode cX8_takesMark 58 = .ok (.invokevirtual 23, 3) := by decide +kernel
theorem dX8_takesMark_61 : decode cX8_takesMark 61 = .ok (.iconst 1, 1) := by decide +kernel
theorem dX8_takesMark_62 : decode cX8_takesMark 62 = .ok (.ireturn, 1) := by decide +kernel
theorem dX8_takesMark_63 : decode cX8_takesMark 63 = .ok (.aload_n 0, 1) := by decide +kernel
theorem dX8_takesMark_64 : decode cX8_takesMark 64 = .ok (.getfield 40, 3) := by decide +kernel
theorem dX8_takesMark_67 : decode cX8_takesMark 67 = .ok (.iconst 3, 1) := by decide +kernel
theorem dX8_takesMark_68 : decode cX8_takesMark 68 = .ok (.if_icmp .ne 46, 3) := by decide +kernel
theorem dX8_takesMark_71 : decode cX8_takesMark 71 = .ok (.iload_n 1, 1) := by decide +kernel
theorem dX8_takesMark_72 : decode cX8_takesMark 72 = .ok (.bipush 64, 2) := by decide +kernel
theorem dX8_takesMark_74 : decode cX8_takesMark 74 = .ok (.if_icmp .ne 40, 3) := by decide +kernel
theorem dX8_takesMark_77 : decode cX8_takesMark 77 = .ok (.aload_n 0, 1) := by decide +kernel
theorem dX8_takesMark_78 : decode cX8_takesMark 78 = .ok (.getfield 62, 3) := by decide +kernel
theorem dX8_takesMark_81 : decode cX8_takesMark 81 = .ok (.ifCond .eq 26, 3) := by decide +kernel
theorem dX8_takesMark_84 : decode cX8_takesMark 84 = .ok (.aload_n 0, 1) := by decide +kernel
theorem dX8_takesMark_85 : decode cX8_takesMark 85 = .ok (.getfield 11, 3) := by decide +kernel
theorem dX8_takesMark_88 : decode cX8_takesMark 88 = .ok (.aload_n 0, 1) := by decide +kernel
theorem dX8_takesMark_89 : decode cX8_takesMark 89 = .ok (.getfield 16, 3) := by decide +kernel
theorem dX8_takesMark_92 : decode cX8_takesMark 92 = .ok (.aaload, 1) := by decide +kernel
theorem dX8_takesMark_93 : decode cX8_takesMark 93 = .ok (.iconst 3, 1) := by decide +kernel
theorem dX8_takesMark_94 : decode cX8_takesMark 94 = .ok (.aload_n 0, 1) := by decide +kernel
theorem dX8_takesMark_95 : decode cX8_takesMark 95 = .ok (.getfield 11, 3) := by decide +kernel
theorem dX8_takesMark_98 : decode cX8_takesMark 98 = .ok (.aload_n 0, 1) := by decide +kernel
theorem dX8_takesMark_99 : decode cX8_takesMark 99 = .ok (.getfield 16, 3) := by decide +kernel
theorem dX8_takesMark_102 : decode cX8_takesMark 102 = .ok (.aaload, 1) := by decide +kernel
theorem dX8_takesMark_103 : decode cX8_takesMark 103 = .ok (.iconst 3, 1) := by decide +kernel
theorem dX8_takesMark_104 : decode cX8_takesMark 104 = .ok (.iaload, 1) := by decide +kernel
theorem dX8_takesMark_105 : decode cX8_takesMark 105 = .ok (.ineg, 1) := by decide +kernel
theorem dX8_takesMark_106 : decode cX8_takesMark 106 = .ok (.iastore, 1) := by decide +kernel
theorem dX8_takesMark_107 : decode cX8_takesMark 107 = .ok (.aload_n 0, 1) := by decide +kernel
theorem dX8_takesMark_108 : decode cX8_takesMark 108 = .ok (.iconst 4, 1) := by decide +kernel
theorem dX8_takesMark_109 : decode cX8_takesMark 109 = .ok (.invokevirtual 23, 3) := by decide +kernel
theorem dX8_takesMark_112 : decode cX8_takesMark 112 = .ok (.iconst 1, 1) := by decide +kernel
theorem dX8_takesMark_113 : decode cX8_takesMark 113 = .ok (.ireturn, 1) := by decide +kernel
theorem dX8_takesMark_114 : decode cX8_takesMark 114 = .ok (.aload_n 0, 1) := by decide +kernel
theorem dX8_takesMark_115 : decode cX8_takesMark 115 = .ok (.getfield 40, 3) := by decide +kernel
theorem dX8_takesMark_118 : decode cX8_takesMark 118 = .ok (.iconst 4, 1) := by decide +kernel
theorem dX8_takesMark_119 : decode cX8_takesMark 119 = .ok (.if_icmp .ne 35, 3) := by decide +kernel
theorem dX8_takesMark_122 : decode cX8_takesMark 122 = .ok (.iload_n 1, 1) := by decide +kernel
theorem dX8_takesMark_123 : decode cX8_takesMark 123 = .ok (.bipush 59, 2) := by decide +kernel
theorem dX8_takesMark_125 : decode cX8_takesMark 125 = .ok (.if_icmp .ne 29, 3) := by decide +kernel
theorem dX8_takesMark_128 : decode cX8_takesMark 128 = .ok (.aload_n 0, 1) := by decide +kernel
theorem dX8_takesMark_129 : decode cX8_takesMark 129 = .ok (.invokevirtual 46, 3) := by decide +kernel
theorem dX8_takesMark_132 : decode cX8_takesMark 132 = .ok (.bipush 7, 2) := by decide +kernel
theorem dX8_takesMark_134 : decode cX8_takesMark 134 = .ok (.if_icmp .ge 20, 3) := by decide +kernel
theorem dX8_takesMark_137 : decode cX8_takesMark 137 = .ok (.aload_n 0, 1) := by decide +kernel
theorem dX8_takesMark_138 : decode cX8_takesMark 138 = .ok (.dup, 1) := by decide +kernel
theorem dX8_takesMark_139 : decode cX8_takesMark 139 = .ok (.getfield 16, 3) := by decide +kernel
theorem dX8_takesMark_142 : decode cX8_takesMark 142 = .ok (.iconst 1, 1) := by decide +kernel
theorem dX8_takesMark_143 : decode cX8_takesMark 143 = .ok (.iadd, 1) := by decide +kernel
theorem dX8_takesMark_144 : decode cX8_takesMark 144 = .ok (.putfield 16, 3) := by decide +kernel
theorem dX8_takesMark_147 : decode cX8_takesMark 147 = .ok (.aload_n 0, 1) := by decide +kernel
theorem dX8_takesMark_148 : decode cX8_takesMark 148 = .ok (.iconst 0, 1) := by decide +kernel
theorem dX8_takesMark_149 : decode cX8_takesMark 149 = .ok (.invokevirtual 23, 3) := by decide +kernel
theorem dX8_takesMark_152 : decode cX8_takesMark 152 = .ok (.iconst 1, 1) := by decide +kernel
theorem dX8_takesMark_153 : decode cX8_takesMark 153 = .ok (.ireturn, 1) := by decide +kernel
theorem dX8_takesMark_154 : decode cX8_takesMark 154 = .ok (.iconst 0, 1) := by decide +kernel
theorem dX8_takesMark_155 : decode cX8_takesMark 155 = .ok (.ireturn, 1) := by decide +kernel
theorem dX9_init_0 : decode cX9_init 0 = .ok (.aload_n 0, 1) := by decide +kernel
theorem dX9_init_1 : decode cX9_init 1 = .ok (.invokespecial 3, 3) := by decide +kernel
theorem dX9_init_4 : decode cX9_init 4 = .ok (.aload_n 0, 1) := by decide +kernel
theorem dX9_init_5 : decode cX9_init 5 = .ok (.bipush 16, 2) := by decide +kernel
theorem dX9_init_7 : decode cX9_init 7 = .ok (.newarray .int, 2) := by decide +kernel
theorem dX9_init_9 : decode cX9_init 9 = .ok (.putfield 9, 3) := by decide +kernel
theorem dX9_init_12 : decode cX9_init 12 = .ok (.return_, 1) := by decide +kernel
set_option maxRecDepth 20000 in
theorem ggX9_clear_J7_fill_53178 : GoodIn wsX9_clear wsJ7_fill_53178 := goodIn_r _ [5] (by decide +kernel) (by decide +kernel)
set_option maxRecDepth 20000 in
theorem gX9_clear_J7_fill_53178 : GoodIn wsX9_clear (va_wsS RX9 15 yJ7_fill_53178 wsJ7_fill_53178) := goodIn_app (goodIn_of _ (by decide +kernel)) ggX9_clear_J7_fill_53178
theorem dX9_clear_0 : decode cX9_clear 0 = .ok (.aload_n 0, 1) := by decide +kernel
