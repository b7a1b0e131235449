def oc_0 : List Cond := [.code yX0_put cX0_put 2 none, .methodLink RX0 39 yX0_put, .instanceMethod yX0_put, .selects RX0 yX0_put yX0_put, .initialized RX0, .constantLong RX0 89 (127), .code yX0_putNumber cX0_putNumber 6 none, .methodLink RX0 46 yX0_putNumber, .instanceMethod yX0_putNumber, .selects RX0 yX0_putNumber yX0_putNumber, .methodLink RX0 79 Lib.Math.min.name, .static Lib.Math.min.name, .initialized "java/lang/Math", .code Lib.Math.min.name Lib.Math.min.code 2 (some .int), .constant RX0 91 (16777619), .code yX0_checkOf cX0_checkOf 5 (some .int), .methodLink RX0 85 yX0_checkOf, .static yX0_checkOf, .code yX5_forget cX5_forget 2 none, .methodLink RX0 107 yX5_forget, .instanceMethod yX5_forget, .selects RX5 yX5_forget yX5_forget, .initialized RX5, .code yX0_fail cX0_fail 3 (some .boolean)]
def oc_1 : List Cond := [.methodLink RX0 130 yX0_fail, .instanceMethod yX0_fail, .selects RX0 yX0_fail yX0_fail, .code yX0_readMarks cX0_readMarks 2 (some .boolean), .methodLink RX0 110 yX0_readMarks, .instanceMethod yX0_readMarks, .selects RX0 yX0_readMarks yX0_readMarks, .code yX0_readNumber cX0_readNumber 5 (some .long), .methodLink RX0 137 yX0_readNumber, .instanceMethod yX0_readNumber, .selects RX0 yX0_readNumber yX0_readNumber, .code yX0_readUpTo cX0_readUpTo 4 (some .int), .methodLink RX0 141 yX0_readUpTo, .instanceMethod yX0_readUpTo, .selects RX0 yX0_readUpTo yX0_readUpTo, .code yX10_isArray cX10_isArray 1 (some .boolean), .methodLink RX0 164 yX10_isArray, .static yX10_isArray, .initialized RX10, .methodLink RX10 86 yX10_isArray, .code yX10_slotsOf cX10_slotsOf 3 (some .int), .methodLink RX0 167 yX10_slotsOf, .instanceMethod yX10_slotsOf, .selects RX10 yX10_slotsOf yX10_slotsOf]
def oc_2 : List Cond := [.code yX5_addThing cX5_addThing 6 (some .int), .methodLink RX0 170 yX5_addThing, .instanceMethod yX5_addThing, .selects RX5 yX5_addThing yX5_addThing, .code yX10_isClass cX10_isClass 2 (some .boolean), .methodLink RX10 69 yX10_isClass, .instanceMethod yX10_isClass, .selects RX10 yX10_isClass yX10_isClass, .code yX10_isType cX10_isType 2 (some .boolean), .methodLink RX0 160 yX10_isType, .instanceMethod yX10_isType, .selects RX10 yX10_isType yX10_isType, .code yX0_readThing cX0_readThing 7 (some .boolean), .methodLink RX0 145 yX0_readThing, .instanceMethod yX0_readThing, .selects RX0 yX0_readThing yX0_readThing, .code yX10_kindAt cX10_kindAt 3 (some .int), .methodLink RX0 174 yX10_kindAt, .instanceMethod yX10_kindAt, .selects RX10 yX10_kindAt yX10_kindAt, .fieldLink RX10 83 "HeapWorks$Types" "WIDTH" "[I", .code yX10_isNumber cX10_isNumber 4 (some .boolean), .methodLink RX0 177 yX10_isNumber, .static yX10_isNumber]
def oc_3 : List Cond := [.code yX0_readSlots cX0_readSlots 8 (some .boolean), .methodLink RX0 149 yX0_readSlots, .instanceMethod yX0_readSlots, .selects RX0 yX0_readSlots yX0_readSlots, .code yX0_readThings cX0_readThings 4 (some .boolean), .methodLink RX0 114 yX0_readThings, .instanceMethod yX0_readThings, .selects RX0 yX0_readThings yX0_readThings, .code yX10_linkAt cX10_linkAt 3 (some .int), .methodLink RX0 183 yX10_linkAt, .instanceMethod yX10_linkAt, .selects RX10 yX10_linkAt yX10_linkAt, .code yX10_isHeir cX10_isHeir 5 (some .boolean), .methodLink RX10 92 yX10_isHeir, .instanceMethod yX10_isHeir, .selects RX10 yX10_isHeir yX10_isHeir, .code yX10_fits cX10_fits 3 (some .boolean), .methodLink RX0 186 yX10_fits, .instanceMethod yX10_fits, .selects RX10 yX10_fits yX10_fits, .constantLong RX0 181 (-1), .code yX0_checkLinks cX0_checkLinks 5 (some .boolean), .methodLink RX0 118 yX0_checkLinks, .instanceMethod yX0_checkLinks]
def oc_4 : List Cond := [.selects RX0 yX0_checkLinks yX0_checkLinks, .code yX5_addRoot cX5_addRoot 3 none, .methodLink RX0 189 yX5_addRoot, .instanceMethod yX5_addRoot, .selects RX5 yX5_addRoot yX5_addRoot, .code yX0_readRoots cX0_readRoots 7 (some .boolean), .methodLink RX0 121 yX0_readRoots, .instanceMethod yX0_readRoots, .selects RX0 yX0_readRoots yX0_readRoots, .code yX0_readCheck cX0_readCheck 3 (some .boolean), .methodLink RX0 124 yX0_readCheck, .instanceMethod yX0_readCheck, .selects RX0 yX0_readCheck yX0_readCheck, .code yX5_setWay cX5_setWay 4 none, .methodLink RX5 148 yX5_setWay, .instanceMethod yX5_setWay, .selects RX5 yX5_setWay yX5_setWay, .code yX5_findWays cX5_findWays 4 (some .int), .methodLink RX0 193 yX5_findWays, .instanceMethod yX5_findWays, .selects RX5 yX5_findWays yX5_findWays, .code yX0_checkWalk cX0_checkWalk 3 (some .boolean), .methodLink RX0 127 yX0_checkWalk, .instanceMethod yX0_checkWalk]
def oc_5 : List Cond := [.selects RX0 yX0_checkWalk yX0_checkWalk, .methodLink RX0 200 arraycopyName, .native arraycopyName, .static arraycopyName, .initialized "java/lang/System", .methodLink RX0 209 Lib.Math.max.name, .static Lib.Math.max.name, .code Lib.Math.max.name Lib.Math.max.code 2 (some .int), .code yX0_recordEnd cX0_recordEnd 3 (some .int), .methodLink RX0 212 yX0_recordEnd, .instanceMethod yX0_recordEnd, .selects RX0 yX0_recordEnd yX0_recordEnd, .code yX0_decode cX0_decode 5 (some .boolean), .methodLink RX0 215 yX0_decode, .instanceMethod yX0_decode, .selects RX0 yX0_decode yX0_decode, .methodLink RX1 44 Lib.Math.min.name, .code yJ7_fill_d0a16 cJ7_fill_d0a16 5 none, .methodLink RX1 55 yJ7_fill_d0a16, .static yJ7_fill_d0a16, .initialized RJ7, .code yX1_addFact cX1_addFact 5 none, .methodLink RX1 92 yX1_addFact, .instanceMethod yX1_addFact]
def oc_6 : List Cond := [.selects RX1 yX1_addFact yX1_addFact, .initialized RX1, .constantLong RX1 90 (-1), .code yX1_addGiven cX1_addGiven 4 none, .methodLink RX1 61 yX1_addGiven, .instanceMethod yX1_addGiven, .selects RX1 yX1_addGiven yX1_addGiven, .code yX10_isNamed cX10_isNamed 6 (some .boolean), .methodLink RX1 108 yX10_isNamed, .instanceMethod yX10_isNamed, .selects RX10 yX10_isNamed yX10_isNamed, .code yX1_findClasses cX1_findClasses 6 none, .methodLink RX1 65 yX1_findClasses, .instanceMethod yX1_findClasses, .selects RX1 yX1_findClasses yX1_findClasses, .constant RX1 72 (1000000), .methodLink RX1 136 Lib.Math.max.name, .code yX1_candidates cX1_candidates 10 (some .long), .methodLink RX1 114 yX1_candidates, .instanceMethod yX1_candidates, .selects RX1 yX1_candidates yX1_candidates, .code yX1_tryThings cX1_tryThings 8 none, .methodLink RX1 76 yX1_tryThings, .instanceMethod yX1_tryThings]
def oc_7 : List Cond := [.selects RX1 yX1_tryThings yX1_tryThings, .constantLong RJ13 314 (6148914691236517205), .constantLong RJ13 316 (3689348814741910323), .constantLong RJ13 318 (1085102592571150095), .code yJ13_bitCount_95d88 cJ13_bitCount_95d88 2 (some .int), .methodLink RX1 139 yJ13_bitCount_95d88, .static yJ13_bitCount_95d88, .initialized RJ13, .methodLink RX2 51 yX10_slotsOf, .code yX2_isThere cX2_isThere 2 (some .boolean), .methodLink RX2 55 yX2_isThere, .instanceMethod yX2_isThere, .selects RX2 yX2_isThere yX2_isThere, .initialized RX2, .code yX2_slotsOf cX2_slotsOf 2 (some .int), .methodLink RX2 59 yX2_slotsOf, .instanceMethod yX2_slotsOf, .selects RX2 yX2_slotsOf yX2_slotsOf, .constantLong RX2 69 (-1), .methodLink RX2 71 yX10_fits, .methodLink RX2 65 yX10_isNumber, .code yX10_use cX10_use 2 none, .methodLink RX2 78 yX10_use, .instanceMethod yX10_use]
def oc_8 : List Cond := [.selects RX10 yX10_use yX10_use, .methodLink RX2 82 yX10_kindAt, .constantLong RX10 96 (-1), .code yX10_firstValue cX10_firstValue 1 (some .long), .methodLink RX2 85 yX10_firstValue, .static yX10_firstValue, .code yX10_ownFields cX10_ownFields 1 (some .int), .methodLink RX2 99 yX10_ownFields, .instanceMethod yX10_ownFields, .selects RX10 yX10_ownFields yX10_ownFields, .code yX10_isLinkStatic cX10_isLinkStatic 2 (some .boolean), .methodLink RX2 103 yX10_isLinkStatic, .instanceMethod yX10_isLinkStatic, .selects RX10 yX10_isLinkStatic yX10_isLinkStatic, .code yX2_fitsSwapped cX2_fitsSwapped 6 (some .boolean), .methodLink RX2 95 yX2_fitsSwapped, .instanceMethod yX2_fitsSwapped, .selects RX2 yX2_fitsSwapped yX2_fitsSwapped, .methodLink RX2 92 yX10_linkAt, .code yJ7_rangeCheck_23922 cJ7_rangeCheck_23922 3 none, .methodLink RJ7 13 yJ7_rangeCheck_23922, .static yJ7_rangeCheck_23922, .code yJ7_fill_fda19 cJ7_fill_fda19 5 none, .methodLink RX2 109 yJ7_fill_fda19]
def oc_9 : List Cond := [.static yJ7_fill_fda19, .code yX2_meet cX2_meet 4 (some .int), .methodLink RX2 115 yX2_meet, .instanceMethod yX2_meet, .selects RX2 yX2_meet yX2_meet, .code yX2_clearMarks cX2_clearMarks 1 none, .methodLink RX2 119 yX2_clearMarks, .instanceMethod yX2_clearMarks, .selects RX2 yX2_clearMarks yX2_clearMarks, .code yX2_meetRoots cX2_meetRoots 3 (some .int), .methodLink RX2 122 yX2_meetRoots, .instanceMethod yX2_meetRoots, .selects RX2 yX2_meetRoots yX2_meetRoots, .code yX2_moveSlots cX2_moveSlots 5 none, .methodLink RX2 128 yX2_moveSlots, .instanceMethod yX2_moveSlots, .selects RX2 yX2_moveSlots yX2_moveSlots, .code yX2_meetLinks cX2_meetLinks 6 (some .int), .methodLink RX2 125 yX2_meetLinks, .instanceMethod yX2_meetLinks, .selects RX2 yX2_meetLinks yX2_meetLinks, .code yX10_isApart cX10_isApart 4 (some .boolean), .methodLink RX2 144 yX10_isApart, .instanceMethod yX10_isApart]
def oc_10 : List Cond := [.selects RX10 yX10_isApart yX10_isApart, .code yX2_walkToCopy cX2_walkToCopy 7 (some .int), .methodLink RX2 132 yX2_walkToCopy, .instanceMethod yX2_walkToCopy, .selects RX2 yX2_walkToCopy yX2_walkToCopy, .code yX2_hasRoom cX2_hasRoom 3 (some .boolean), .methodLink RX2 135 yX2_hasRoom, .instanceMethod yX2_hasRoom, .selects RX2 yX2_hasRoom yX2_hasRoom, .code yX2_copySlots cX2_copySlots 9 none, .methodLink RX2 141 yX2_copySlots, .instanceMethod yX2_copySlots, .selects RX2 yX2_copySlots yX2_copySlots, .code yX2_create cX2_create 7 (some .int), .methodLink RX2 138 yX2_create, .instanceMethod yX2_create, .selects RX2 yX2_create yX2_create, .code yX3_remember cX3_remember 5 none, .methodLink RX3 49 yX3_remember, .instanceMethod yX3_remember, .selects RX3 yX3_remember yX3_remember, .initialized RX3, .methodLink RX3 125 yX10_firstValue, .constantLong RX3 129 (-1)]
def oc_11 : List Cond := [.code yX3_isCase cX3_isCase 9 (some .boolean), .methodLink RX3 77 yX3_isCase, .instanceMethod yX3_isCase, .selects RX3 yX3_isCase yX3_isCase, .code yX3_addRow cX3_addRow 9 none, .methodLink RX3 81 yX3_addRow, .instanceMethod yX3_addRow, .selects RX3 yX3_addRow yX3_addRow, .methodLink RX3 69 yX10_isArray, .methodLink RX3 73 yX10_isHeir, .methodLink RX3 94 yX2_slotsOf, .code yX3_writeSlot cX3_writeSlot 12 (some .int), .methodLink RX3 101 yX3_writeSlot, .instanceMethod yX3_writeSlot, .selects RX3 yX3_writeSlot yX3_writeSlot, .methodLink RX3 105 yX10_ownFields, .methodLink RX3 109 yX10_isLinkStatic, .code yX3_writeStatic cX3_writeStatic 8 (some .int), .methodLink RX3 112 yX3_writeStatic, .instanceMethod yX3_writeStatic, .selects RX3 yX3_writeStatic yX3_writeStatic, .code yX4_isTrue cX4_isTrue 2 (some .boolean), .methodLink RX4 71 yX4_isTrue, .instanceMethod yX4_isTrue]
def oc_12 : List Cond := [.selects RX4 yX4_isTrue yX4_isTrue, .initialized RX4, .constant RX4 106 (1000000), .code yX4_push cX4_push 4 none, .methodLink RX4 139 yX4_push, .instanceMethod yX4_push, .selects RX4 yX4_push yX4_push, .code yX4_decide cX4_decide 4 (some .int), .methodLink RX4 248 yX4_decide, .instanceMethod yX4_decide, .selects RX4 yX4_decide yX4_decide, .code yX4_giveAt cX4_giveAt 4 (some .int), .methodLink RX4 242 yX4_giveAt, .instanceMethod yX4_giveAt, .selects RX4 yX4_giveAt yX4_giveAt, .code yX4_nextThing cX4_nextThing 4 (some .int), .methodLink RX4 269 yX4_nextThing, .instanceMethod yX4_nextThing, .selects RX4 yX4_nextThing yX4_nextThing, .constantLong RX4 198 (-1), .code yX4_addReached cX4_addReached 3 none, .methodLink RX4 239 yX4_addReached, .instanceMethod yX4_addReached, .selects RX4 yX4_addReached yX4_addReached]
def oc_13 : List Cond := [.code yX4_nextReached cX4_nextReached 4 (some .int), .methodLink RX4 266 yX4_nextReached, .instanceMethod yX4_nextReached, .selects RX4 yX4_nextReached yX4_nextReached, .code yX4_giveNext cX4_giveNext 4 (some .int), .methodLink RX4 251 yX4_giveNext, .instanceMethod yX4_giveNext, .selects RX4 yX4_giveNext yX4_giveNext, .methodLink RX4 221 Lib.Math.max.name, .code yX4_addNumber cX4_addNumber 5 none, .methodLink RX4 274 yX4_addNumber, .instanceMethod yX4_addNumber, .selects RX4 yX4_addNumber yX4_addNumber, .code yX4_addUp cX4_addUp 4 (some .int), .methodLink RX4 254 yX4_addUp, .instanceMethod yX4_addUp, .selects RX4 yX4_addUp yX4_addUp, .code yX4_pushTruth cX4_pushTruth 2 none, .methodLink RX4 148 yX4_pushTruth, .instanceMethod yX4_pushTruth, .selects RX4 yX4_pushTruth yX4_pushTruth, .code yX4_finish cX4_finish 4 none, .methodLink RX4 257 yX4_finish, .instanceMethod yX4_finish]
def oc_14 : List Cond := [.selects RX4 yX4_finish yX4_finish, .code yX4_addRow cX4_addRow 2 none, .methodLink RX4 263 yX4_addRow, .instanceMethod yX4_addRow, .selects RX4 yX4_addRow yX4_addRow, .code yX4_jump cX4_jump 3 (some .int), .methodLink RX4 135 yX4_jump, .instanceMethod yX4_jump, .selects RX4 yX4_jump yX4_jump, .methodLink RX4 180 yX10_isNamed, .code yX4_classesNamed cX4_classesNamed 6 (some .int), .methodLink RX4 217 yX4_classesNamed, .instanceMethod yX4_classesNamed, .selects RX4 yX4_classesNamed yX4_classesNamed, .code yX4_beginFrom cX4_beginFrom 4 none, .methodLink RX4 226 yX4_beginFrom, .instanceMethod yX4_beginFrom, .selects RX4 yX4_beginFrom yX4_beginFrom, .code yX4_beginSet cX4_beginSet 4 none, .methodLink RX4 132 yX4_beginSet, .instanceMethod yX4_beginSet, .selects RX4 yX4_beginSet yX4_beginSet, .code yX4_isLink cX4_isLink 1 (some .boolean), .methodLink RX4 211 yX4_isLink]
def oc_15 : List Cond := [.static yX4_isLink, .code yX4_compare cX4_compare 6 none, .methodLink RX4 200 yX4_compare, .instanceMethod yX4_compare, .selects RX4 yX4_compare yX4_compare, .code yX4_divide cX4_divide 6 none, .methodLink RX4 214 yX4_divide, .instanceMethod yX4_divide, .selects RX4 yX4_divide yX4_divide, .code yX4_reckon cX4_reckon 6 none, .methodLink RX4 207 yX4_reckon, .instanceMethod yX4_reckon, .selects RX4 yX4_reckon yX4_reckon, .methodLink RX4 163 yX10_isArray, .code yX4_pushSlot cX4_pushSlot 4 none, .methodLink RX4 188 yX4_pushSlot, .instanceMethod yX4_pushSlot, .selects RX4 yX4_pushSlot yX4_pushSlot, .code yX4_pushElement cX4_pushElement 5 none, .methodLink RX4 204 yX4_pushElement, .instanceMethod yX4_pushElement, .selects RX4 yX4_pushElement yX4_pushElement, .code yX4_doTwo cX4_doTwo 8 none, .methodLink RX4 128 yX4_doTwo]
def oc_16 : List Cond := [.instanceMethod yX4_doTwo, .selects RX4 yX4_doTwo yX4_doTwo, .methodLink RX10 89 yX10_kindAt, .code yX10_sizeOf cX10_sizeOf 4 (some .int), .methodLink RX4 171 yX10_sizeOf, .instanceMethod yX10_sizeOf, .selects RX10 yX10_sizeOf yX10_sizeOf, .code yX10_slotNamed cX10_slotNamed 5 (some .int), .methodLink RX4 184 yX10_slotNamed, .instanceMethod yX10_slotNamed, .selects RX10 yX10_slotNamed yX10_slotNamed, .code yX4_lookAt cX4_lookAt 7 none, .methodLink RX4 156 yX4_lookAt, .instanceMethod yX4_lookAt, .selects RX4 yX4_lookAt yX4_lookAt, .code yX4_doOne cX4_doOne 7 none, .methodLink RX4 124 yX4_doOne, .instanceMethod yX4_doOne, .selects RX4 yX4_doOne yX4_doOne, .code yX4_pushThing cX4_pushThing 4 none, .methodLink RX4 152 yX4_pushThing, .instanceMethod yX4_pushThing, .selects RX4 yX4_pushThing yX4_pushThing, .code yX4_doLeaf cX4_doLeaf 6 none]
def oc_17 : List Cond := [.methodLink RX4 117 yX4_doLeaf, .instanceMethod yX4_doLeaf, .selects RX4 yX4_doLeaf yX4_doLeaf, .code yX4_execute cX4_execute 3 (some .int), .methodLink RX4 110 yX4_execute, .instanceMethod yX4_execute, .selects RX4 yX4_execute yX4_execute, .methodLink RX8 67 yJ7_fill_fda19, .constant RX8 99 (1000000), .methodLink RX8 110 yX10_sizeOf, .code yX8_meeting cX8_meeting 6 (some .int), .methodLink RX8 116 yX8_meeting, .instanceMethod yX8_meeting, .selects RX8 yX8_meeting yX8_meeting, .initialized RX8, .code yX8_commonDominator cX8_commonDominator 5 (some .int), .methodLink RX8 100 yX8_commonDominator, .instanceMethod yX8_commonDominator, .selects RX8 yX8_commonDominator yX8_commonDominator, .code yX8_needDominators cX8_needDominators 6 none, .methodLink RX4 103 yX8_needDominators, .instanceMethod yX8_needDominators, .selects RX8 yX8_needDominators yX8_needDominators, .constantLong RX8 90 (-1)]
def oc_18 : List Cond := [.code yX8_addHolder cX8_addHolder 4 none, .methodLink RX8 95 yX8_addHolder, .instanceMethod yX8_addHolder, .selects RX8 yX8_addHolder yX8_addHolder, .code yX8_needHolders cX8_needHolders 4 none, .methodLink RX4 94 yX8_needHolders, .instanceMethod yX8_needHolders, .selects RX8 yX8_needHolders yX8_needHolders, .methodLink RX5 95 yX5_forget, .methodLink RX5 111 yX10_ownFields, .constantLong RX5 128 (-1), .methodLink RX5 140 yX2_slotsOf, .methodLink RX5 144 yX5_addThing, .code yX5_meet cX5_meet 6 (some .int), .methodLink RX5 130 yX5_meet, .instanceMethod yX5_meet, .selects RX5 yX5_meet yX5_meet, .code yX5_takeSlots cX5_takeSlots 9 none, .methodLink RX5 124 yX5_takeSlots, .instanceMethod yX5_takeSlots, .selects RX5 yX5_takeSlots yX5_takeSlots, .methodLink RX5 117 yX10_isLinkStatic, .methodLink RX5 134 yX5_addRoot, .code yX5_meetRoot cX5_meetRoot 5 none]
def oc_19 : List Cond := [.methodLink RX5 103 yX5_meetRoot, .instanceMethod yX5_meetRoot, .selects RX5 yX5_meetRoot yX5_meetRoot, .methodLink RX5 155 yX8_needHolders, .methodLink RX5 174 yX8_needDominators, .code yX5_needDominators cX5_needDominators 1 none, .methodLink RX5 162 yX5_needDominators, .instanceMethod yX5_needDominators, .selects RX5 yX5_needDominators yX5_needDominators, .code yX8_linksItself cX8_linksItself 3 (some .boolean), .methodLink RX8 145 yX8_linksItself, .static yX8_linksItself, .code yX8_numberRings cX8_numberRings 4 none, .methodLink RX8 123 yX8_numberRings, .instanceMethod yX8_numberRings, .selects RX8 yX8_numberRings yX8_numberRings, .code yX8_enter cX8_enter 3 (some .int), .methodLink RX8 127 yX8_enter, .instanceMethod yX8_enter, .selects RX8 yX8_enter yX8_enter, .code yX8_nextLink cX8_nextLink 4 (some .int), .methodLink RX8 130 yX8_nextLink, .instanceMethod yX8_nextLink, .selects RX8 yX8_nextLink yX8_nextLink]
def oc_20 : List Cond := [.methodLink RX8 134 Lib.Math.min.name, .code yX8_closeRing cX8_closeRing 4 (some .int), .methodLink RX8 139 yX8_closeRing, .instanceMethod yX8_closeRing, .selects RX8 yX8_closeRing yX8_closeRing, .code yX8_explore cX8_explore 10 (some .int), .methodLink RX8 119 yX8_explore, .instanceMethod yX8_explore, .selects RX8 yX8_explore yX8_explore, .code yX8_needRings cX8_needRings 4 none, .methodLink RX5 176 yX8_needRings, .instanceMethod yX8_needRings, .selects RX8 yX8_needRings yX8_needRings, .code yX5_memberOf cX5_memberOf 6 (some .int), .methodLink RX5 185 yX5_memberOf, .instanceMethod yX5_memberOf, .selects RX5 yX5_memberOf yX5_memberOf, .code yJ7_fill_53178 cJ7_fill_53178 4 none, .methodLink RX8 149 yJ7_fill_53178, .static yJ7_fill_53178, .constantLong RX8 162 (61), .constantLong RX8 164 (31), .code yX8_bucketOf cX8_bucketOf 5 (some .int), .methodLink RX8 152 yX8_bucketOf]
def oc_21 : List Cond := [.static yX8_bucketOf, .code yX8_isTwin cX8_isTwin 5 (some .boolean), .methodLink RX8 155 yX8_isTwin, .static yX8_isTwin, .code yX8_needTwins cX8_needTwins 6 none, .methodLink RX5 189 yX8_needTwins, .instanceMethod yX8_needTwins, .selects RX8 yX8_needTwins yX8_needTwins, .methodLink RX5 198 yX10_sizeOf, .methodLink RX5 202 yX10_isArray, .methodLink RX5 205 yX10_isHeir, .methodLink RX5 209 yJ7_fill_fda19, .code yX5_reach cX5_reach 3 (some .int), .methodLink RX5 212 yX5_reach, .instanceMethod yX5_reach, .selects RX5 yX5_reach yX5_reach, .code yX5_isSame cX5_isSame 10 (some .boolean), .methodLink RX5 215 yX5_isSame, .instanceMethod yX5_isSame, .selects RX5 yX5_isSame yX5_isSame, .code yX5_pairSlots cX5_pairSlots 12 (some .int), .methodLink RX5 219 yX5_pairSlots, .instanceMethod yX5_pairSlots, .selects RX5 yX5_pairSlots yX5_pairSlots]
def oc_22 : List Cond := [.code yX9_isDigit cX9_isDigit 1 (some .boolean), .methodLink RX9 65 yX9_isDigit, .static yX9_isDigit, .initialized RX9, .code yX9_symbolOf cX9_symbolOf 1 (some .int), .methodLink RX9 45 yX9_symbolOf, .static yX9_symbolOf, .fieldLink RJ0 38 "java/lang/String" "COMPACT_STRINGS" "Z", .fieldLink RJ0 15 "java/lang/String" "coder" "B", .code yJ0_isLatin1_aae02 cJ0_isLatin1_aae02 1 (some .boolean), .methodLink RJ0 492 yJ0_isLatin1_aae02, .instanceMethod yJ0_isLatin1_aae02, .selects RJ0 yJ0_isLatin1_aae02 yJ0_isLatin1_aae02, .initialized RJ0, .fieldLink RJ0 9 "java/lang/String" "value" "[B", .code yJ0_coder_7d493 cJ0_coder_7d493 1 (some .byte), .methodLink RJ0 335 yJ0_coder_7d493, .instanceMethod yJ0_coder_7d493, .selects RJ0 yJ0_coder_7d493 yJ0_coder_7d493, .code yJ0_length_8abf5 cJ0_length_8abf5 1 (some .int), .methodLink RJ0 505 yJ0_length_8abf5, .instanceMethod yJ0_length_8abf5, .selects RJ0 yJ0_length_8abf5 yJ0_length_8abf5, .code yJ1_canEncode_9a6ad cJ1_canEncode_9a6ad 1 (some .boolean)]
def oc_23 : List Cond := [.methodLink RJ1 88 yJ1_canEncode_9a6ad, .static yJ1_canEncode_9a6ad, .initialized RJ1, .methodLink RJ1 92 Lib.Math.max.name, .methodLink RJ1 38 Lib.Math.min.name, .code yJ1_indexOfChar_4cfef cJ1_indexOfChar_4cfef 6 (some .int), .methodLink RJ1 95 yJ1_indexOfChar_4cfef, .static yJ1_indexOfChar_4cfef, .code yJ1_indexOf_4cfef cJ1_indexOf_4cfef 4 (some .int), .methodLink RJ0 637 yJ1_indexOf_4cfef, .static yJ1_indexOf_4cfef, .code yJ0_indexOf_7cf53 cJ0_indexOf_7cf53 3 (some .int), .methodLink RJ0 633 yJ0_indexOf_7cf53, .instanceMethod yJ0_indexOf_7cf53, .selects RJ0 yJ0_indexOf_7cf53 yJ0_indexOf_7cf53, .code yJ0_indexOf_0f7a4 cJ0_indexOf_0f7a4 2 (some .int), .methodLink RX9 113 yJ0_indexOf_0f7a4, .instanceMethod yJ0_indexOf_0f7a4, .selects RJ0 yJ0_indexOf_0f7a4 yJ0_indexOf_0f7a4, .code yX9_scanSign cX9_scanSign 3 none, .methodLink RX9 100 yX9_scanSign, .instanceMethod yX9_scanSign, .selects RX9 yX9_scanSign yX9_scanSign, .code yX9_keywordOf cX9_keywordOf 4 (some .int)]
def oc_24 : List Cond := [.methodLink RX9 107 yX9_keywordOf, .instanceMethod yX9_keywordOf, .selects RX9 yX9_keywordOf yX9_keywordOf, .constantLong RX9 43 (64), .code yX9_scanName cX9_scanName 2 none, .methodLink RX9 97 yX9_scanName, .instanceMethod yX9_scanName, .selects RX9 yX9_scanName yX9_scanName, .constantLong RX9 103 (10), .constantLong RX9 105 (48), .code yX9_scanNumber cX9_scanNumber 1 none, .methodLink RX9 94 yX9_scanNumber, .instanceMethod yX9_scanNumber, .selects RX9 yX9_scanNumber yX9_scanNumber, .code yX9_isBlank cX9_isBlank 1 (some .boolean), .methodLink RX9 91 yX9_isBlank, .static yX9_isBlank, .code yX9_scanWord cX9_scanWord 1 none, .methodLink RX9 72 yX9_scanWord, .instanceMethod yX9_scanWord, .selects RX9 yX9_scanWord yX9_scanWord, .code yX9_nextWord cX9_nextWord 1 none, .methodLink RX9 88 yX9_nextWord, .instanceMethod yX9_nextWord]
def oc_25 : List Cond := [.selects RX9 yX9_nextWord yX9_nextWord, .code yX9_startWords cX9_startWords 2 none, .methodLink RX6 102 yX9_startWords, .instanceMethod yX9_startWords, .selects RX9 yX9_startWords yX9_startWords, .code yX6_start cX6_start 1 none, .methodLink RX6 38 yX6_start, .instanceMethod yX6_start, .selects RX6 yX6_start yX6_start, .initialized RX6, .code yX6_readAnds cX6_readAnds 3 (some .boolean), .methodLink RX6 128 yX6_readAnds, .instanceMethod yX6_readAnds, .selects RX6 yX6_readAnds yX6_readAnds, .code yX6_fail cX6_fail 2 (some .boolean), .methodLink RX6 112 yX6_fail, .instanceMethod yX6_fail, .selects RX6 yX6_fail yX6_fail, .code yX6_addNode cX6_addNode 1 (some .boolean), .methodLink RX6 115 yX6_addNode, .instanceMethod yX6_addNode, .selects RX6 yX6_addNode yX6_addNode, .methodLink RX6 105 Lib.Math.min.name, .code yX6_emit cX6_emit 7 (some .int)]
def oc_26 : List Cond := [.methodLink RX6 58 yX6_emit, .instanceMethod yX6_emit, .selects RX6 yX6_emit yX6_emit, .methodLink RX6 69 yX9_nextWord, .code yX6_readNots cX6_readNots 3 (some .boolean), .methodLink RX6 131 yX6_readNots, .instanceMethod yX6_readNots, .selects RX6 yX6_readNots yX6_readNots, .code yX6_readComparison cX6_readComparison 2 (some .boolean), .methodLink RX6 134 yX6_readComparison, .instanceMethod yX6_readComparison, .selects RX6 yX6_readComparison yX6_readComparison, .code yX6_readSums cX6_readSums 3 (some .boolean), .methodLink RX6 137 yX6_readSums, .instanceMethod yX6_readSums, .selects RX6 yX6_readSums yX6_readSums, .code yX6_comparisonOf cX6_comparisonOf 1 (some .int), .methodLink RX6 140 yX6_comparisonOf, .static yX6_comparisonOf, .code yX6_refuse cX6_refuse 1 (some .boolean), .methodLink RX6 51 yX6_refuse, .instanceMethod yX6_refuse, .selects RX6 yX6_refuse yX6_refuse, .code yX6_pass cX6_pass 2 (some .boolean)]
def oc_27 : List Cond := [.methodLink RX6 122 yX6_pass, .instanceMethod yX6_pass, .selects RX6 yX6_pass yX6_pass, .code yX6_readProducts cX6_readProducts 3 (some .boolean), .methodLink RX6 144 yX6_readProducts, .instanceMethod yX6_readProducts, .selects RX6 yX6_readProducts yX6_readProducts, .code yX6_readSigned cX6_readSigned 3 (some .boolean), .methodLink RX6 147 yX6_readSigned, .instanceMethod yX6_readSigned, .selects RX6 yX6_readSigned yX6_readSigned, .code yX6_readP cX6_readP 3 (some .boolean), .methodLink RX6 125 yX6_readP, .instanceMethod yX6_readP, .selects RX6 yX6_readP yX6_readP, .code yX6_readAtom cX6_readAtom 1 (some .boolean), .methodLink RX6 150 yX6_readAtom, .instanceMethod yX6_readAtom, .selects RX6 yX6_readAtom yX6_readAtom, .code yX6_readTail cX6_readTail 3 (some .boolean), .methodLink RX6 153 yX6_readTail, .instanceMethod yX6_readTail, .selects RX6 yX6_readTail yX6_readTail, .code yX6_readE cX6_readE 3 (some .boolean)]
def oc_28 : List Cond := [.methodLink RX6 41 yX6_readE, .instanceMethod yX6_readE, .selects RX6 yX6_readE yX6_readE, .code yX6_addNest cX6_addNest 1 (some .boolean), .methodLink RX6 156 yX6_addNest, .instanceMethod yX6_addNest, .selects RX6 yX6_addNest yX6_addNest, .code yX6_readLeaf cX6_readLeaf 5 (some .boolean), .methodLink RX6 159 yX6_readLeaf, .instanceMethod yX6_readLeaf, .selects RX6 yX6_readLeaf yX6_readLeaf, .code yX6_readVariable cX6_readVariable 2 (some .boolean), .methodLink RX6 163 yX6_readVariable, .instanceMethod yX6_readVariable, .selects RX6 yX6_readVariable yX6_readVariable, .code yX6_readInner cX6_readInner 1 (some .boolean), .methodLink RX6 169 yX6_readInner, .instanceMethod yX6_readInner, .selects RX6 yX6_readInner yX6_readInner, .code yX6_readThing cX6_readThing 1 (some .boolean), .methodLink RX6 166 yX6_readThing, .instanceMethod yX6_readThing, .selects RX6 yX6_readThing yX6_readThing, .code yX6_readFold cX6_readFold 5 (some .boolean)]
def oc_29 : List Cond := [.methodLink RX6 172 yX6_readFold, .instanceMethod yX6_readFold, .selects RX6 yX6_readFold yX6_readFold, .code yX6_readSet cX6_readSet 3 (some .boolean), .methodLink RX6 54 yX6_readSet, .instanceMethod yX6_readSet, .selects RX6 yX6_readSet yX6_readSet, .code yX6_readFoldBody cX6_readFoldBody 4 (some .boolean), .methodLink RX6 175 yX6_readFoldBody, .instanceMethod yX6_readFoldBody, .selects RX6 yX6_readFoldBody yX6_readFoldBody, .code yX6_readWhere cX6_readWhere 2 (some .boolean), .methodLink RX6 66 yX6_readWhere, .instanceMethod yX6_readWhere, .selects RX6 yX6_readWhere yX6_readWhere, .methodLink RX7 83 yX9_startWords, .code yX7_isPlainName cX7_isPlainName 1 (some .boolean), .methodLink RX7 103 yX7_isPlainName, .instanceMethod yX7_isPlainName, .selects RX7 yX7_isPlainName yX7_isPlainName, .initialized RX7, .code yX7_relationOf cX7_relationOf 4 (some .int), .methodLink RX7 116 yX7_relationOf, .instanceMethod yX7_relationOf]
def oc_30 : List Cond := [.selects RX7 yX7_relationOf yX7_relationOf, .methodLink RX7 97 yX9_nextWord, .code yX7_refuse cX7_refuse 1 (some .boolean), .methodLink RX7 94 yX7_refuse, .instanceMethod yX7_refuse, .selects RX7 yX7_refuse yX7_refuse, .code yX7_pass cX7_pass 2 (some .boolean), .methodLink RX7 131 yX7_pass, .instanceMethod yX7_pass, .selects RX7 yX7_pass yX7_pass, .code yX7_variableOf cX7_variableOf 4 (some .int), .methodLink RX7 138 yX7_variableOf, .instanceMethod yX7_variableOf, .selects RX7 yX7_variableOf yX7_variableOf, .code yX7_fail cX7_fail 3 (some .boolean), .methodLink RX7 106 yX7_fail, .instanceMethod yX7_fail, .selects RX7 yX7_fail yX7_fail, .code yX7_readVariable cX7_readVariable 2 (some .int), .methodLink RX7 134 yX7_readVariable, .instanceMethod yX7_readVariable, .selects RX7 yX7_readVariable yX7_readVariable, .code yX7_readPair cX7_readPair 7 (some .boolean), .methodLink RX7 120 yX7_readPair]
def oc_31 : List Cond := [.instanceMethod yX7_readPair, .selects RX7 yX7_readPair yX7_readPair, .code yX7_readPart cX7_readPart 5 (some .boolean), .methodLink RX7 127 yX7_readPart, .instanceMethod yX7_readPart, .selects RX7 yX7_readPart yX7_readPart, .code yX7_readBody cX7_readBody 2 (some .boolean), .methodLink RX7 124 yX7_readBody, .instanceMethod yX7_readBody, .selects RX7 yX7_readBody yX7_readBody, .code yX7_readRule cX7_readRule 3 (some .boolean), .methodLink RX7 89 yX7_readRule, .instanceMethod yX7_readRule, .selects RX7 yX7_readRule yX7_readRule, .methodLink RX9 53 arraycopyName, .methodLink RX9 59 yJ7_fill_53178, .methodLink RX10 73 arraycopyName, .code yX10_firstByte cX10_firstByte 8 (some .int), .methodLink RX10 79 yX10_firstByte, .instanceMethod yX10_firstByte, .selects RX10 yX10_firstByte yX10_firstByte, .code yX9_putReady cX9_putReady 4 none, .methodLink RX11 102 yX9_putReady, .instanceMethod yX9_putReady]
def oc_32 : List Cond := [.selects RX9 yX9_putReady yX9_putReady, .code yX9_takeReady cX9_takeReady 2 (some .int), .methodLink RX11 106 yX9_takeReady, .instanceMethod yX9_takeReady, .selects RX9 yX9_takeReady yX9_takeReady, .classLink RX11 120 "java/lang/IndexOutOfBoundsException", .initialized "java/lang/IndexOutOfBoundsException", .code yX9_wholeName cX9_wholeName 1 (some .long), .methodLink RX11 123 yX9_wholeName, .instanceMethod yX9_wholeName, .selects RX9 yX9_wholeName yX9_wholeName, .classLink RX11 137 "java/lang/IllegalStateException", .initialized "java/lang/IllegalStateException", .code yX10_hasName cX10_hasName 5 (some .boolean), .methodLink RX11 133 yX10_hasName, .instanceMethod yX10_hasName, .selects RX10 yX10_hasName yX10_hasName, .code yX10_addClass cX10_addClass 6 (some .int), .methodLink RX11 140 yX10_addClass, .instanceMethod yX10_addClass, .selects RX10 yX10_addClass yX10_addClass, .classLink RX11 127 "java/lang/IllegalArgumentException", .initialized "java/lang/IllegalArgumentException", .methodLink RX11 116 yX10_isClass]
def oc_33 : List Cond := [.code yX10_hasFieldNamed cX10_hasFieldNamed 5 (some .boolean), .methodLink RX11 154 yX10_hasFieldNamed, .instanceMethod yX10_hasFieldNamed, .selects RX10 yX10_hasFieldNamed yX10_hasFieldNamed, .code yX10_addField cX10_addField 10 (some .int), .methodLink RX11 157 yX10_addField, .instanceMethod yX10_addField, .selects RX10 yX10_addField yX10_addField, .methodLink RX11 165 yX10_firstValue, .methodLink RX11 144 yX10_isType, .methodLink RX11 178 yX10_sizeOf, .code yX2_countOf cX2_countOf 4 (some .int), .methodLink RX11 185 yX2_countOf, .instanceMethod yX2_countOf, .selects RX2 yX2_countOf yX2_countOf, .code yX10_hasField cX10_hasField 3 (some .boolean), .methodLink RX11 188 yX10_hasField, .instanceMethod yX10_hasField, .selects RX10 yX10_hasField yX10_hasField, .methodLink RX11 204 yX10_firstByte, .methodLink RX11 207 yX10_isArray, .methodLink RX11 210 yX10_slotsOf, .methodLink RX11 213 yX2_hasRoom, .methodLink RX11 216 yX2_create]
def oc_34 : List Cond := [.methodLink RX11 219 yX2_isThere, .code yX2_rootPlace cX2_rootPlace 3 (some .int), .methodLink RX11 225 yX2_rootPlace, .instanceMethod yX2_rootPlace, .selects RX2 yX2_rootPlace yX2_rootPlace, .code yX2_dropRoot cX2_dropRoot 3 none, .methodLink RX11 234 yX2_dropRoot, .instanceMethod yX2_dropRoot, .selects RX2 yX2_dropRoot yX2_dropRoot, .classLink RX11 222 "java/util/NoSuchElementException", .initialized "java/util/NoSuchElementException", .code yX2_hasSlot cX2_hasSlot 3 (some .boolean), .methodLink RX11 238 yX2_hasSlot, .instanceMethod yX2_hasSlot, .selects RX2 yX2_hasSlot yX2_hasSlot, .methodLink RX11 244 yX10_kindAt, .methodLink RX11 247 yX10_linkAt, .code yX2_isValue cX2_isValue 5 (some .boolean), .methodLink RX11 250 yX2_isValue, .instanceMethod yX2_isValue, .selects RX2 yX2_isValue yX2_isValue, .methodLink RX11 254 yX3_writeSlot, .code yX4_run cX4_run 5 (some .boolean), .methodLink RX11 347 yX4_run]
def oc_35 : List Cond := [.instanceMethod yX4_run, .selects RX4 yX4_run yX4_run, .code yX4_saysTrue cX4_saysTrue 1 (some .boolean), .methodLink RX11 351 yX4_saysTrue, .instanceMethod yX4_saysTrue, .selects RX4 yX4_saysTrue yX4_saysTrue, .code yX5_takeFrom cX5_takeFrom 4 none, .methodLink RX11 343 yX5_takeFrom, .instanceMethod yX5_takeFrom, .selects RX5 yX5_takeFrom yX5_takeFrom, .code yX11_checkPromises cX11_checkPromises 4 none, .methodLink RX11 258 yX11_checkPromises, .instanceMethod yX11_checkPromises, .selects RX11 yX11_checkPromises yX11_checkPromises, .initialized RX11, .code yX10_staticField cX10_staticField 5 (some .int), .methodLink RX11 261 yX10_staticField, .instanceMethod yX10_staticField, .selects RX10 yX10_staticField yX10_staticField, .methodLink RX11 264 yX3_writeStatic, .code yX3_forgetUndo cX3_forgetUndo 1 none, .methodLink RX11 277 yX3_forgetUndo, .instanceMethod yX3_forgetUndo, .selects RX3 yX3_forgetUndo yX3_forgetUndo]
def oc_36 : List Cond := [.code yX2_dropUnreached cX2_dropUnreached 6 (some .int), .methodLink RX11 280 yX2_dropUnreached, .instanceMethod yX2_dropUnreached, .selects RX2 yX2_dropUnreached yX2_dropUnreached, .code yX3_takeBack cX3_takeBack 3 (some .int), .methodLink RX11 284 yX3_takeBack, .instanceMethod yX3_takeBack, .selects RX3 yX3_takeBack yX3_takeBack, .code yX2_canSwap cX2_canSwap 7 (some .boolean), .methodLink RX11 288 yX2_canSwap, .instanceMethod yX2_canSwap, .selects RX2 yX2_canSwap yX2_canSwap, .code yX3_swapSlots cX3_swapSlots 9 (some .int), .methodLink RX11 291 yX3_swapSlots, .instanceMethod yX3_swapSlots, .selects RX3 yX3_swapSlots yX3_swapSlots, .code yX3_swapStatics cX3_swapStatics 6 (some .int), .methodLink RX11 295 yX3_swapStatics, .instanceMethod yX3_swapStatics, .selects RX3 yX3_swapStatics yX3_swapStatics, .code yX2_swapRoots cX2_swapRoots 4 none, .methodLink RX11 298 yX2_swapRoots, .instanceMethod yX2_swapRoots, .selects RX2 yX2_swapRoots yX2_swapRoots]
def oc_37 : List Cond := [.code yX2_duplicate cX2_duplicate 7 (some .int), .methodLink RX11 304 yX2_duplicate, .instanceMethod yX2_duplicate, .selects RX2 yX2_duplicate yX2_duplicate, .code yX3_addWatch cX3_addWatch 4 (some .int), .methodLink RX11 313 yX3_addWatch, .instanceMethod yX3_addWatch, .selects RX3 yX3_addWatch yX3_addWatch, .code yX11_rows cX11_rows 2 (some .int), .methodLink RX11 320 yX11_rows, .instanceMethod yX11_rows, .selects RX11 yX11_rows yX11_rows, .code yX3_rowPart cX3_rowPart 4 (some .long), .methodLink RX11 323 yX3_rowPart, .instanceMethod yX3_rowPart, .selects RX3 yX3_rowPart yX3_rowPart, .code yX6_readPromise cX6_readPromise 1 (some .boolean), .methodLink RX11 330 yX6_readPromise, .instanceMethod yX6_readPromise, .selects RX6 yX6_readPromise yX6_readPromise, .code yX11_tellFault cX11_tellFault 3 none, .methodLink RX11 340 yX11_tellFault, .instanceMethod yX11_tellFault, .selects RX11 yX11_tellFault yX11_tellFault]
def oc_38 : List Cond := [.code yX11_isPicture cX11_isPicture 1 (some .boolean), .methodLink RX11 412 yX11_isPicture, .static yX11_isPicture, .code yX11_needPicture cX11_needPicture 1 none, .methodLink RX11 354 yX11_needPicture, .static yX11_needPicture, .code yX11_isThing cX11_isThing 3 (some .boolean), .methodLink RX11 360 yX11_isThing, .instanceMethod yX11_isThing, .selects RX11 yX11_isThing yX11_isThing, .code yX5_holdersOf cX5_holdersOf 2 (some .int), .methodLink RX11 377 yX5_holdersOf, .instanceMethod yX5_holdersOf, .selects RX5 yX5_holdersOf yX5_holdersOf, .code yX5_dominatorOf cX5_dominatorOf 2 (some .int), .methodLink RX11 380 yX5_dominatorOf, .instanceMethod yX5_dominatorOf, .selects RX5 yX5_dominatorOf yX5_dominatorOf, .code yX5_keptBy cX5_keptBy 2 (some .int), .methodLink RX11 383 yX5_keptBy, .instanceMethod yX5_keptBy, .selects RX5 yX5_keptBy yX5_keptBy, .code yX5_dominatedBy cX5_dominatedBy 2 (some .int), .methodLink RX11 386 yX5_dominatedBy]
def oc_39 : List Cond := [.instanceMethod yX5_dominatedBy, .selects RX5 yX5_dominatedBy yX5_dominatedBy, .code yX5_ringOf cX5_ringOf 2 (some .int), .methodLink RX11 389 yX5_ringOf, .instanceMethod yX5_ringOf, .selects RX5 yX5_ringOf yX5_ringOf, .code yX5_twinOf cX5_twinOf 2 (some .int), .methodLink RX11 392 yX5_twinOf, .instanceMethod yX5_twinOf, .selects RX5 yX5_twinOf yX5_twinOf, .code yX5_ringCount cX5_ringCount 1 (some .int), .methodLink RX11 415 yX5_ringCount, .instanceMethod yX5_ringCount, .selects RX5 yX5_ringCount yX5_ringCount, .code yX5_twinCount cX5_twinCount 1 (some .int), .methodLink RX11 418 yX5_twinCount, .instanceMethod yX5_twinCount, .selects RX5 yX5_twinCount yX5_twinCount, .code yX5_allSizes cX5_allSizes 4 (some .int), .methodLink RX11 421 yX5_allSizes, .instanceMethod yX5_allSizes, .selects RX5 yX5_allSizes yX5_allSizes, .code yX5_doubledSizes cX5_doubledSizes 5 (some .int), .methodLink RX11 425 yX5_doubledSizes]
def oc_40 : List Cond := [.instanceMethod yX5_doubledSizes, .selects RX5 yX5_doubledSizes yX5_doubledSizes, .code yX5_countOf cX5_countOf 4 (some .int), .methodLink RX11 432 yX5_countOf, .instanceMethod yX5_countOf, .selects RX5 yX5_countOf yX5_countOf, .code yX5_countHeirs cX5_countHeirs 5 (some .int), .methodLink RX11 428 yX5_countHeirs, .instanceMethod yX5_countHeirs, .selects RX5 yX5_countHeirs yX5_countHeirs, .code yX5_twinMember cX5_twinMember 3 (some .int), .methodLink RX11 436 yX5_twinMember, .instanceMethod yX5_twinMember, .selects RX5 yX5_twinMember yX5_twinMember, .code yX5_ringMember cX5_ringMember 3 (some .int), .methodLink RX11 433 yX5_ringMember, .instanceMethod yX5_ringMember, .selects RX5 yX5_ringMember yX5_ringMember, .code yX5_findLost cX5_findLost 4 (some .int), .methodLink RX11 442 yX5_findLost, .instanceMethod yX5_findLost, .selects RX5 yX5_findLost yX5_findLost, .code yX5_listChanged cX5_listChanged 6 (some .int), .methodLink RX11 458 yX5_listChanged]
def oc_41 : List Cond := [.instanceMethod yX5_listChanged, .selects RX5 yX5_listChanged yX5_listChanged, .code yX5_listMissing cX5_listMissing 5 (some .int), .methodLink RX11 451 yX5_listMissing, .instanceMethod yX5_listMissing, .selects RX5 yX5_listMissing yX5_listMissing, .code yX5_isLike cX5_isLike 6 (some .boolean), .methodLink RX11 461 yX5_isLike, .instanceMethod yX5_isLike, .selects RX5 yX5_isLike yX5_isLike, .code yX6_readQuestion cX6_readQuestion 2 (some .boolean), .methodLink RX11 467 yX6_readQuestion, .instanceMethod yX6_readQuestion, .selects RX6 yX6_readQuestion yX6_readQuestion, .code yX7_readAll cX7_readAll 2 (some .boolean), .methodLink RX11 482 yX7_readAll, .instanceMethod yX7_readAll, .selects RX7 yX7_readAll yX7_readAll, .code yX1_workOut cX1_workOut 5 none, .methodLink RX11 487 yX1_workOut, .instanceMethod yX1_workOut, .selects RX1 yX1_workOut yX1_workOut, .code yX1_countOf cX1_countOf 4 (some .int), .methodLink RX11 494 yX1_countOf]
def oc_42 : List Cond := [.instanceMethod yX1_countOf, .selects RX1 yX1_countOf yX1_countOf, .code yX1_has cX1_has 4 (some .boolean), .methodLink RX11 498 yX1_has, .instanceMethod yX1_has, .selects RX1 yX1_has yX1_has, .code yX0_encode cX0_encode 6 (some .int), .methodLink RX11 502 yX0_encode, .instanceMethod yX0_encode, .selects RX0 yX0_encode yX0_encode, .methodLink RX11 509 arraycopyName, .methodLink RX11 515 yX0_decode, .code yX11_exchange cX11_exchange 3 (some .int), .methodLink RX11 524 yX11_exchange, .instanceMethod yX11_exchange, .selects RX11 yX11_exchange yX11_exchange, .methodLink RX11 521 yX10_use, .code yX0_append cX0_append 2 (some .boolean), .methodLink RX11 527 yX0_append, .instanceMethod yX0_append, .selects RX0 yX0_append yX0_append, .code yX0_reopenAt cX0_reopenAt 6 (some .int), .methodLink RX11 533 yX0_reopenAt, .instanceMethod yX0_reopenAt]
def oc_43 : List Cond := [.selects RX0 yX0_reopenAt yX0_reopenAt, .code yX0_readRecord cX0_readRecord 5 (some .boolean), .methodLink RX11 537 yX0_readRecord, .instanceMethod yX0_readRecord, .selects RX0 yX0_readRecord yX0_readRecord, .code yX12_isDigit cX12_isDigit 1 (some .boolean), .methodLink RX12 394 yX12_isDigit, .static yX12_isDigit, .initialized RX12, .constantLong RX12 398 (255), .constantLong RX12 400 (63), .code yX12_code cX12_code 1 (some .int), .methodLink RX12 402 yX12_code, .static yX12_code, .code yX12_keyOf cX12_keyOf 5 (some .int), .methodLink RX12 409 yX12_keyOf, .instanceMethod yX12_keyOf, .selects RX12 yX12_keyOf yX12_keyOf, .code yX12_isLetter cX12_isLetter 1 (some .boolean), .methodLink RX12 406 yX12_isLetter, .static yX12_isLetter, .code yX12_tapeName cX12_tapeName 5 (some .long), .methodLink RX12 419 yX12_tapeName, .instanceMethod yX12_tapeName]
def oc_44 : List Cond := [.selects RX12 yX12_tapeName yX12_tapeName, .code yX12_width cX12_width 1 (some .int), .methodLink RX12 427 yX12_width, .static yX12_width, .code yX12_layOut cX12_layOut 8 none, .methodLink RX12 423 yX12_layOut, .instanceMethod yX12_layOut, .selects RX12 yX12_layOut yX12_layOut, .code yX12_isClass cX12_isClass 2 (some .boolean), .methodLink RX12 416 yX12_isClass, .instanceMethod yX12_isClass, .selects RX12 yX12_isClass yX12_isClass, .constantLong RX12 433 (-1), .code yX12_isLinkType cX12_isLinkType 2 (some .boolean), .methodLink RX12 430 yX12_isLinkType, .instanceMethod yX12_isLinkType, .selects RX12 yX12_isLinkType yX12_isLinkType, .code yX12_sizeOf cX12_sizeOf 2 (some .int), .methodLink RX12 438 yX12_sizeOf, .instanceMethod yX12_sizeOf, .selects RX12 yX12_sizeOf yX12_sizeOf, .code yX12_fieldOf cX12_fieldOf 6 (some .int), .methodLink RX12 441 yX12_fieldOf, .instanceMethod yX12_fieldOf]
def oc_45 : List Cond := [.selects RX12 yX12_fieldOf yX12_fieldOf, .code yX12_is cX12_is 4 (some .boolean), .methodLink RX12 445 yX12_is, .instanceMethod yX12_is, .selects RX12 yX12_is yX12_is, .code yX12_fits cX12_fits 3 (some .boolean), .methodLink RX12 449 yX12_fits, .instanceMethod yX12_fits, .selects RX12 yX12_fits yX12_fits, .code yX12_slotCount cX12_slotCount 3 (some .int), .methodLink RX12 455 yX12_slotCount, .instanceMethod yX12_slotCount, .selects RX12 yX12_slotCount yX12_slotCount, .code yX12_kindOf cX12_kindOf 3 (some .int), .methodLink RX12 458 yX12_kindOf, .instanceMethod yX12_kindOf, .selects RX12 yX12_kindOf yX12_kindOf, .code yX12_add cX12_add 6 (some .int), .methodLink RX12 467 yX12_add, .instanceMethod yX12_add, .selects RX12 yX12_add yX12_add, .code yX12_isArrayType cX12_isArrayType 2 (some .boolean), .methodLink RX12 464 yX12_isArrayType, .instanceMethod yX12_isArrayType]
def oc_46 : List Cond := [.selects RX12 yX12_isArrayType yX12_isArrayType, .code yX12_isObject cX12_isObject 2 (some .boolean), .methodLink RX12 473 yX12_isObject, .instanceMethod yX12_isObject, .selects RX12 yX12_isObject yX12_isObject, .code yX12_rootAt cX12_rootAt 4 (some .int), .methodLink RX12 476 yX12_rootAt, .instanceMethod yX12_rootAt, .selects RX12 yX12_rootAt yX12_rootAt, .code yX12_look cX12_look 13 none, .methodLink RX12 488 yX12_look, .instanceMethod yX12_look, .selects RX12 yX12_look yX12_look, .code yX12_isOfKind cX12_isOfKind 6 (some .boolean), .methodLink RX12 495 yX12_isOfKind, .instanceMethod yX12_isOfKind, .selects RX12 yX12_isOfKind yX12_isOfKind, .code yX12_write cX12_write 9 none, .methodLink RX12 499 yX12_write, .instanceMethod yX12_write, .selects RX12 yX12_write yX12_write, .code yX12_beginWalk cX12_beginWalk 2 none, .methodLink RX12 532 yX12_beginWalk, .instanceMethod yX12_beginWalk]
def oc_47 : List Cond := [.selects RX12 yX12_beginWalk yX12_beginWalk, .code yX12_isLinkSlot cX12_isLinkSlot 3 (some .boolean), .methodLink RX12 512 yX12_isLinkSlot, .instanceMethod yX12_isLinkSlot, .selects RX12 yX12_isLinkSlot yX12_isLinkSlot, .code yX12_meet cX12_meet 3 none, .methodLink RX12 528 yX12_meet, .instanceMethod yX12_meet, .selects RX12 yX12_meet yX12_meet, .code yX12_isApart cX12_isApart 4 (some .boolean), .methodLink RX12 525 yX12_isApart, .instanceMethod yX12_isApart, .selects RX12 yX12_isApart yX12_isApart, .code yX12_meetSlots cX12_meetSlots 6 none, .methodLink RX12 535 yX12_meetSlots, .instanceMethod yX12_meetSlots, .selects RX12 yX12_meetSlots yX12_meetSlots, .code yX12_isLinkStatic cX12_isLinkStatic 2 (some .boolean), .methodLink RX12 519 yX12_isLinkStatic, .instanceMethod yX12_isLinkStatic, .selects RX12 yX12_isLinkStatic yX12_isLinkStatic, .code yX12_walkRoots cX12_walkRoots 2 none, .methodLink RX12 539 yX12_walkRoots, .instanceMethod yX12_walkRoots]
def oc_48 : List Cond := [.selects RX12 yX12_walkRoots yX12_walkRoots, .code yX12_at cX12_at 3 (some .int), .methodLink RX12 545 yX12_at, .instanceMethod yX12_at, .selects RX12 yX12_at yX12_at, .code yX12_addRoot cX12_addRoot 4 none, .methodLink RX12 548 yX12_addRoot, .instanceMethod yX12_addRoot, .selects RX12 yX12_addRoot yX12_addRoot, .code yX12_picture0 cX12_picture0 10 none, .methodLink RX12 552 yX12_picture0, .instanceMethod yX12_picture0, .selects RX12 yX12_picture0 yX12_picture0, .code yX12_slotsIn cX12_slotsIn 3 (some .int), .methodLink RX12 570 yX12_slotsIn, .instanceMethod yX12_slotsIn, .selects RX12 yX12_slotsIn yX12_slotsIn, .code yX12_linksIn cX12_linksIn 4 (some .boolean), .methodLink RX12 573 yX12_linksIn, .instanceMethod yX12_linksIn, .selects RX12 yX12_linksIn yX12_linksIn, .code yX12_valueIn cX12_valueIn 4 (some .long), .methodLink RX12 577 yX12_valueIn, .instanceMethod yX12_valueIn]
def oc_49 : List Cond := [.selects RX12 yX12_valueIn yX12_valueIn, .code yX12_findWays cX12_findWays 5 none, .methodLink RX12 558 yX12_findWays, .instanceMethod yX12_findWays, .selects RX12 yX12_findWays yX12_findWays, .code yX12_visit cX12_visit 5 none, .methodLink RX12 584 yX12_visit, .instanceMethod yX12_visit, .selects RX12 yX12_visit yX12_visit, .code yX12_visitSlots cX12_visitSlots 7 none, .methodLink RX12 588 yX12_visitSlots, .instanceMethod yX12_visitSlots, .selects RX12 yX12_visitSlots yX12_visitSlots, .code yX12_reach cX12_reach 6 none, .methodLink RX12 591 yX12_reach, .instanceMethod yX12_reach, .selects RX12 yX12_reach yX12_reach, .code yX12_objectSize cX12_objectSize 4 (some .int), .methodLink RX12 509 yX12_objectSize, .instanceMethod yX12_objectSize, .selects RX12 yX12_objectSize yX12_objectSize, .code yX12_sizeIn cX12_sizeIn 3 (some .int), .methodLink RX12 594 yX12_sizeIn, .instanceMethod yX12_sizeIn]
def oc_50 : List Cond := [.selects RX12 yX12_sizeIn yX12_sizeIn, .code yX12_findDominators cX12_findDominators 7 none, .methodLink RX12 561 yX12_findDominators, .instanceMethod yX12_findDominators, .selects RX12 yX12_findDominators yX12_findDominators, .code yX12_takeNow cX12_takeNow 1 none, .methodLink RX12 875 yX12_takeNow, .instanceMethod yX12_takeNow, .selects RX12 yX12_takeNow yX12_takeNow, .code yX12_beginWork cX12_beginWork 2 none, .methodLink RX12 865 yX12_beginWork, .instanceMethod yX12_beginWork, .selects RX12 yX12_beginWork yX12_beginWork, .code yX12_workBoth cX12_workBoth 3 none, .methodLink RX12 804 yX12_workBoth, .instanceMethod yX12_workBoth, .selects RX12 yX12_workBoth yX12_workBoth, .code yX12_give cX12_give 4 none, .methodLink RX12 791 yX12_give, .instanceMethod yX12_give, .selects RX12 yX12_give yX12_give, .code yX12_truth cX12_truth 2 none, .methodLink RX12 813 yX12_truth, .instanceMethod yX12_truth]
def oc_51 : List Cond := [.selects RX12 yX12_truth yX12_truth, .code yX12_workOne cX12_workOne 5 none, .methodLink RX12 823 yX12_workOne, .instanceMethod yX12_workOne, .selects RX12 yX12_workOne yX12_workOne, .code yX12_nothing cX12_nothing 1 none, .methodLink RX12 798 yX12_nothing, .instanceMethod yX12_nothing, .selects RX12 yX12_nothing yX12_nothing, .code yX12_workNumbered cX12_workNumbered 2 none, .methodLink RX12 820 yX12_workNumbered, .instanceMethod yX12_workNumbered, .selects RX12 yX12_workNumbered yX12_workNumbered, .code yX12_workPart cX12_workPart 4 none, .methodLink RX12 817 yX12_workPart, .instanceMethod yX12_workPart, .selects RX12 yX12_workPart yX12_workPart, .code yX12_workTwo cX12_workTwo 10 none, .methodLink RX12 807 yX12_workTwo, .instanceMethod yX12_workTwo, .selects RX12 yX12_workTwo yX12_workTwo, .code yX12_workFold cX12_workFold 10 none, .methodLink RX12 801 yX12_workFold, .instanceMethod yX12_workFold]
def oc_52 : List Cond := [.selects RX12 yX12_workFold yX12_workFold, .code yX12_step cX12_step 1 none, .methodLink RX12 795 yX12_step, .instanceMethod yX12_step, .selects RX12 yX12_step yX12_step, .code yX12_work cX12_work 3 none, .methodLink RX12 829 yX12_work, .instanceMethod yX12_work, .selects RX12 yX12_work yX12_work, .code yX12_link cX12_link 3 none, .methodLink RX12 840 yX12_link, .instanceMethod yX12_link, .selects RX12 yX12_link yX12_link, .code yX12_workField cX12_workField 8 none, .methodLink RX12 836 yX12_workField, .instanceMethod yX12_workField, .selects RX12 yX12_workField yX12_workField, .code yX12_isNamed cX12_isNamed 7 (some .boolean), .methodLink RX12 832 yX12_isNamed, .instanceMethod yX12_isNamed, .selects RX12 yX12_isNamed yX12_isNamed, .code yX12_gather cX12_gather 3 none, .methodLink RX12 843 yX12_gather, .instanceMethod yX12_gather]
def oc_53 : List Cond := [.selects RX12 yX12_gather yX12_gather, .code yX12_workSet cX12_workSet 7 none, .methodLink RX12 849 yX12_workSet, .instanceMethod yX12_workSet, .selects RX12 yX12_workSet yX12_workSet, .code yX12_isTrueNow cX12_isTrueNow 2 (some .boolean), .methodLink RX12 878 yX12_isTrueNow, .instanceMethod yX12_isTrueNow, .selects RX12 yX12_isTrueNow yX12_isTrueNow, .code yX12_lookAtPromises cX12_lookAtPromises 4 none, .methodLink RX12 503 yX12_lookAtPromises, .instanceMethod yX12_lookAtPromises, .selects RX12 yX12_lookAtPromises yX12_lookAtPromises, .code yX12_linkOf cX12_linkOf 3 (some .int), .methodLink RX12 492 yX12_linkOf, .instanceMethod yX12_linkOf, .selects RX12 yX12_linkOf yX12_linkOf, .code yX12_staticOf cX12_staticOf 5 (some .int), .methodLink RX12 506 yX12_staticOf, .instanceMethod yX12_staticOf, .selects RX12 yX12_staticOf yX12_staticOf, .code yX12_turned cX12_turned 4 (some .long), .methodLink RX12 515 yX12_turned, .static yX12_turned]
def oc_54 : List Cond := [.code yX12_isPicture cX12_isPicture 2 (some .boolean), .methodLink RX12 542 yX12_isPicture, .instanceMethod yX12_isPicture, .selects RX12 yX12_isPicture yX12_isPicture, .code yX12_findRings cX12_findRings 5 none, .methodLink RX12 564 yX12_findRings, .instanceMethod yX12_findRings, .selects RX12 yX12_findRings yX12_findRings, .code yX12_areDoubles cX12_areDoubles 6 (some .boolean), .methodLink RX12 597 yX12_areDoubles, .instanceMethod yX12_areDoubles, .selects RX12 yX12_areDoubles yX12_areDoubles, .code yX12_findGroups cX12_findGroups 5 none, .methodLink RX12 567 yX12_findGroups, .instanceMethod yX12_findGroups, .selects RX12 yX12_findGroups yX12_findGroups, .code yX12_study cX12_study 3 none, .methodLink RX12 555 yX12_study, .instanceMethod yX12_study, .selects RX12 yX12_study yX12_study, .code yX12_isThing cX12_isThing 3 (some .boolean), .methodLink RX12 600 yX12_isThing, .instanceMethod yX12_isThing, .selects RX12 yX12_isThing yX12_isThing]
def oc_55 : List Cond := [.code yX12_holders cX12_holders 6 (some .int), .methodLink RX12 603 yX12_holders, .instanceMethod yX12_holders, .selects RX12 yX12_holders yX12_holders, .code yX12_firstOfGroup cX12_firstOfGroup 4 (some .int), .methodLink RX12 606 yX12_firstOfGroup, .instanceMethod yX12_firstOfGroup, .selects RX12 yX12_firstOfGroup yX12_firstOfGroup, .code yX12_shown cX12_shown 6 (some .long), .methodLink RX12 609 yX12_shown, .instanceMethod yX12_shown, .selects RX12 yX12_shown yX12_shown, .code yX12_thingOf cX12_thingOf 5 (some .int), .methodLink RX12 615 yX12_thingOf, .instanceMethod yX12_thingOf, .selects RX12 yX12_thingOf yX12_thingOf, .code yX12_isChanged cX12_isChanged 7 (some .boolean), .methodLink RX12 618 yX12_isChanged, .instanceMethod yX12_isChanged, .selects RX12 yX12_isChanged yX12_isChanged, .code yX12_pair cX12_pair 3 (some .boolean), .methodLink RX12 622 yX12_pair, .instanceMethod yX12_pair, .selects RX12 yX12_pair yX12_pair]
def oc_56 : List Cond := [.code yX12_byteAt cX12_byteAt 2 (some .int), .methodLink RX12 634 yX12_byteAt, .instanceMethod yX12_byteAt, .selects RX12 yX12_byteAt yX12_byteAt, .constantLong RX12 651 (256), .constantLong RX12 647 (10), .constantLong RX12 649 (48), .code yX12_fail cX12_fail 3 none, .methodLink RX12 653 yX12_fail, .instanceMethod yX12_fail, .selects RX12 yX12_fail yX12_fail, .code yX12_advance cX12_advance 5 none, .methodLink RX12 661 yX12_advance, .instanceMethod yX12_advance, .selects RX12 yX12_advance yX12_advance, .code yX12_isSign cX12_isSign 3 (some .boolean), .methodLink RX12 657 yX12_isSign, .instanceMethod yX12_isSign, .selects RX12 yX12_isSign yX12_isSign, .code yX12_wrong cX12_wrong 1 none, .methodLink RX12 664 yX12_wrong, .instanceMethod yX12_wrong, .selects RX12 yX12_wrong yX12_wrong, .code yX12_isKey cX12_isKey 2 (some .boolean)]
def oc_57 : List Cond := [.methodLink RX12 667 yX12_isKey, .instanceMethod yX12_isKey, .selects RX12 yX12_isKey yX12_isKey, .code yX12_readAnd cX12_readAnd 3 (some .int), .methodLink RX12 679 yX12_readAnd, .instanceMethod yX12_readAnd, .selects RX12 yX12_readAnd yX12_readAnd, .code yX12_node cX12_node 3 (some .int), .methodLink RX12 683 yX12_node, .instanceMethod yX12_node, .selects RX12 yX12_node yX12_node, .code yX12_readNot cX12_readNot 2 (some .int), .methodLink RX12 686 yX12_readNot, .instanceMethod yX12_readNot, .selects RX12 yX12_readNot yX12_readNot, .code yX12_readCompared cX12_readCompared 4 (some .int), .methodLink RX12 689 yX12_readCompared, .instanceMethod yX12_readCompared, .selects RX12 yX12_readCompared yX12_readCompared, .code yX12_readSum cX12_readSum 3 (some .int), .methodLink RX12 704 yX12_readSum, .instanceMethod yX12_readSum, .selects RX12 yX12_readSum yX12_readSum, .constantLong RX12 692 (61)]
def oc_58 : List Cond := [.constantLong RX12 694 (8509), .constantLong RX12 696 (60), .constantLong RX12 698 (15421), .constantLong RX12 700 (62), .constantLong RX12 702 (15933), .code yX12_compared cX12_compared 1 (some .int), .methodLink RX12 707 yX12_compared, .instanceMethod yX12_compared, .selects RX12 yX12_compared yX12_compared, .code yX12_isName cX12_isName 1 (some .boolean), .methodLink RX12 710 yX12_isName, .instanceMethod yX12_isName, .selects RX12 yX12_isName yX12_isName, .code yX12_readProduct cX12_readProduct 3 (some .int), .methodLink RX12 714 yX12_readProduct, .instanceMethod yX12_readProduct, .selects RX12 yX12_readProduct yX12_readProduct, .constantLong RX12 717 (43), .constantLong RX12 719 (45), .code yX12_readTurned cX12_readTurned 2 (some .int), .methodLink RX12 721 yX12_readTurned, .instanceMethod yX12_readTurned, .selects RX12 yX12_readTurned yX12_readTurned, .constantLong RX12 724 (42)]
def oc_59 : List Cond := [.constantLong RX12 726 (47), .constantLong RX12 728 (37), .code yX12_readP cX12_readP 4 (some .int), .methodLink RX12 730 yX12_readP, .instanceMethod yX12_readP, .selects RX12 yX12_readP yX12_readP, .code yX12_readAtom cX12_readAtom 5 (some .int), .methodLink RX12 733 yX12_readAtom, .instanceMethod yX12_readAtom, .selects RX12 yX12_readAtom yX12_readAtom, .constantLong RX12 736 (46), .constantLong RX12 746 (93), .code yX12_needSign cX12_needSign 3 none, .methodLink RX12 748 yX12_needSign, .instanceMethod yX12_needSign, .selects RX12 yX12_needSign yX12_needSign, .code yX12_readE cX12_readE 3 (some .int), .methodLink RX12 743 yX12_readE, .instanceMethod yX12_readE, .selects RX12 yX12_readE yX12_readE, .code yX12_nest cX12_nest 1 none, .methodLink RX12 740 yX12_nest, .instanceMethod yX12_nest, .selects RX12 yX12_nest yX12_nest]
def oc_60 : List Cond := [.constantLong RX12 738 (91), .code yX12_keyAtHand cX12_keyAtHand 1 (some .int), .methodLink RX12 751 yX12_keyAtHand, .instanceMethod yX12_keyAtHand, .selects RX12 yX12_keyAtHand yX12_keyAtHand, .constantLong RX12 754 (40), .code yX12_readFold cX12_readFold 5 (some .int), .methodLink RX12 758 yX12_readFold, .instanceMethod yX12_readFold, .selects RX12 yX12_readFold yX12_readFold, .constantLong RX12 756 (41), .code yX12_readSet cX12_readSet 4 (some .int), .methodLink RX12 771 yX12_readSet, .instanceMethod yX12_readSet, .selects RX12 yX12_readSet yX12_readSet, .code yX12_takesKey cX12_takesKey 3 (some .boolean), .methodLink RX12 768 yX12_takesKey, .instanceMethod yX12_takesKey, .selects RX12 yX12_takesKey yX12_takesKey, .constantLong RX12 774 (58), .code yX12_beginText cX12_beginText 2 none, .methodLink RX12 855 yX12_beginText, .instanceMethod yX12_beginText, .selects RX12 yX12_beginText yX12_beginText]
def oc_61 : List Cond := [.code yX12_endText cX12_endText 1 none, .methodLink RX12 858 yX12_endText, .instanceMethod yX12_endText, .selects RX12 yX12_endText yX12_endText, .constant RX12 868 (48400), .code yX12_answerAll cX12_answerAll 6 none, .methodLink RX12 861 yX12_answerAll, .instanceMethod yX12_answerAll, .selects RX12 yX12_answerAll yX12_answerAll, .constantLong RX12 881 (26982), .code yX12_coded cX12_coded 6 (some .long), .methodLink RX12 384 yX12_coded, .static yX12_coded, .constantLong RX12 883 (1818848875), .code yX12_isRuleName cX12_isRuleName 1 (some .boolean), .methodLink RX12 885 yX12_isRuleName, .instanceMethod yX12_isRuleName, .selects RX12 yX12_isRuleName yX12_isRuleName, .code yX12_readVariable cX12_readVariable 3 (some .int), .methodLink RX12 891 yX12_readVariable, .instanceMethod yX12_readVariable, .selects RX12 yX12_readVariable yX12_readVariable, .constantLong RX12 900 (44), .code yX12_takesSign cX12_takesSign 4 (some .boolean)]
def oc_62 : List Cond := [.methodLink RX12 902 yX12_takesSign, .instanceMethod yX12_takesSign, .selects RX12 yX12_takesSign yX12_takesSign, .code yX12_relationAtHand cX12_relationAtHand 3 (some .int), .methodLink RX12 911 yX12_relationAtHand, .instanceMethod yX12_relationAtHand, .selects RX12 yX12_relationAtHand yX12_relationAtHand, .code yX12_readPlaces cX12_readPlaces 5 none, .methodLink RX12 914 yX12_readPlaces, .instanceMethod yX12_readPlaces, .selects RX12 yX12_readPlaces yX12_readPlaces, .constantLong RX12 921 (59), .code yX12_isHeld cX12_isHeld 5 (some .boolean), .methodLink RX12 923 yX12_isHeld, .instanceMethod yX12_isHeld, .selects RX12 yX12_isHeld yX12_isHeld, .code yX12_readRelation cX12_readRelation 6 none, .methodLink RX12 926 yX12_readRelation, .instanceMethod yX12_readRelation, .selects RX12 yX12_readRelation yX12_readRelation, .code yX12_readAtomOf cX12_readAtomOf 8 none, .methodLink RX12 918 yX12_readAtomOf, .instanceMethod yX12_readAtomOf, .selects RX12 yX12_readAtomOf yX12_readAtomOf]
def oc_63 : List Cond := [.code yX12_isFactNow cX12_isFactNow 4 (some .boolean), .methodLink RX12 930 yX12_isFactNow, .instanceMethod yX12_isFactNow, .selects RX12 yX12_isFactNow yX12_isFactNow, .code yX12_holds cX12_holds 4 (some .boolean), .methodLink RX12 936 yX12_holds, .instanceMethod yX12_holds, .selects RX12 yX12_holds yX12_holds, .code yX12_join cX12_join 13 (some .boolean), .methodLink RX12 939 yX12_join, .instanceMethod yX12_join, .selects RX12 yX12_join yX12_join, .code yX12_findLinks cX12_findLinks 5 none, .methodLink RX12 945 yX12_findLinks, .instanceMethod yX12_findLinks, .selects RX12 yX12_findLinks yX12_findLinks, .code yX12_count cX12_count 5 (some .int), .methodLink RX12 948 yX12_count, .instanceMethod yX12_count, .selects RX12 yX12_count yX12_count, .code yX12_readRule cX12_readRule 4 none, .methodLink RX12 942 yX12_readRule, .instanceMethod yX12_readRule, .selects RX12 yX12_readRule yX12_readRule]
def oc_64 : List Cond := [.constantLong RX12 951 (127), .constant RX12 956 (16777619), .constantLong RX12 957 (72), .code yX12_putNumber cX12_putNumber 6 none, .methodLink RX12 959 yX12_putNumber, .instanceMethod yX12_putNumber, .selects RX12 yX12_putNumber yX12_putNumber, .constantLong RX12 962 (80), .code yX12_check cX12_check 5 (some .int), .methodLink RX12 968 yX12_check, .static yX12_check, .constantLong RX12 966 (2), .constantLong RX12 964 (-2), .code yX12_putPicture cX12_putPicture 6 (some .boolean), .methodLink RX12 972 yX12_putPicture, .instanceMethod yX12_putPicture, .selects RX12 yX12_putPicture yX12_putPicture, .constantLong RX12 981 (100), .code yX12_takeNumber cX12_takeNumber 5 (some .long), .methodLink RX12 983 yX12_takeNumber, .instanceMethod yX12_takeNumber, .selects RX12 yX12_takeNumber yX12_takeNumber, .code yX12_takeSlot cX12_takeSlot 9 none, .methodLink RX12 994 yX12_takeSlot]
def oc_65 : List Cond := [.instanceMethod yX12_takeSlot, .selects RX12 yX12_takeSlot yX12_takeSlot, .code yX12_isType cX12_isType 3 (some .boolean), .methodLink RX12 988 yX12_isType, .instanceMethod yX12_isType, .selects RX12 yX12_isType yX12_isType, .constantLong RX12 986 (399), .constantLong RX12 999 (107), .constantLong RX12 997 (108), .code yX12_meetNext cX12_meetNext 3 (some .int), .methodLink RX12 1001 yX12_meetNext, .instanceMethod yX12_meetNext, .selects RX12 yX12_meetNext yX12_meetNext, .code yX12_takeByte cX12_takeByte 2 none, .methodLink RX12 1004 yX12_takeByte, .instanceMethod yX12_takeByte, .selects RX12 yX12_takeByte yX12_takeByte, .code yX12_checkOrder cX12_checkOrder 6 none, .methodLink RX12 1018 yX12_checkOrder, .instanceMethod yX12_checkOrder, .selects RX12 yX12_checkOrder yX12_checkOrder, .code yX12_takeRoots cX12_takeRoots 10 none, .methodLink RX12 1015 yX12_takeRoots, .instanceMethod yX12_takeRoots]
def oc_66 : List Cond := [.selects RX12 yX12_takeRoots yX12_takeRoots, .code yX12_checkLinks cX12_checkLinks 5 none, .methodLink RX12 1012 yX12_checkLinks, .instanceMethod yX12_checkLinks, .selects RX12 yX12_checkLinks yX12_checkLinks, .code yX12_takeThing cX12_takeThing 11 none, .methodLink RX12 1009 yX12_takeThing, .instanceMethod yX12_takeThing, .selects RX12 yX12_takeThing yX12_takeThing, .constantLong RX12 1007 (400), .code yX12_takePicture cX12_takePicture 6 none, .methodLink RX12 1021 yX12_takePicture, .instanceMethod yX12_takePicture, .selects RX12 yX12_takePicture yX12_takePicture, .code yX12_copyNow cX12_copyNow 3 none, .methodLink RX12 1024 yX12_copyNow, .instanceMethod yX12_copyNow, .selects RX12 yX12_copyNow yX12_copyNow, .code yX12_takeRecord cX12_takeRecord 3 none, .methodLink RX12 1033 yX12_takeRecord, .instanceMethod yX12_takeRecord, .selects RX12 yX12_takeRecord yX12_takeRecord, .code yJ3_checkIndex_8e157 cJ3_checkIndex_8e157 3 (some .int), .methodLink RJ0 1059 yJ3_checkIndex_8e157]
def oc_67 : List Cond := [.static yJ3_checkIndex_8e157, .initialized RJ3, .fieldLink RJ0 1053 "jdk/internal/util/Preconditions" "SIOOBE_FORMATTER" "Ljava/util/function/BiFunction;", .methodLink RX11 3 objectInit, .instanceMethod objectInit, .code objectInit ⟨#[0xb1]⟩ 1 none, .classLink RX11 9 RX9, .instantiable RX9 12, .methodLink RX9 3 objectInit, .arrayClass .int, .fieldLink RX9 11 "HeapWorks$Tape" "bytes" "[I", .fieldLink RX9 15 "HeapWorks$Tape" "ready" "[I", .fieldLink RX9 18 "HeapWorks$Tape" "words" "[I", .fieldLink RX9 21 "HeapWorks$Tape" "places" "[I", .arrayClass .long, .fieldLink RX9 24 "HeapWorks$Tape" "codes" "[J", .fieldLink RX9 28 "HeapWorks$Tape" "keywords" "[J", .methodLink RX9 33 yJ0_length_8abf5, .code yJ0_checkIndex_df160 cJ0_checkIndex_df160 2 none, .methodLink RJ1 9 yJ0_checkIndex_df160, .static yJ0_checkIndex_df160, .code yJ1_charAt_3b067 cJ1_charAt_3b067 2 (some .char), .methodLink RJ0 495 yJ1_charAt_3b067, .static yJ1_charAt_3b067]
def oc_68 : List Cond := [.code yJ0_charAt_5068e cJ0_charAt_5068e 2 (some .char), .methodLink RX9 39 yJ0_charAt_5068e, .instanceMethod yJ0_charAt_5068e, .selects RJ0 yJ0_charAt_5068e yJ0_charAt_5068e, .code yX9_init cX9_init 5 none, .methodLink RX11 11 yX9_init, .instanceMethod yX9_init, .fieldLink RX11 12 "HeapWorks" "tape" "LHeapWorks$Tape;", .classLink RX11 16 RX10, .instantiable RX10 18, .methodLink RX10 5 objectInit, .fieldLink RX10 11 "HeapWorks$Types" "name" "[J", .fieldLink RX10 15 "HeapWorks$Types" "loader" "[I", .fieldLink RX10 19 "HeapWorks$Types" "parent" "[I", .arrayClass .boolean, .fieldLink RX10 22 "HeapWorks$Types" "used" "[Z", .fieldLink RX10 26 "HeapWorks$Types" "apart" "[Z", .fieldLink RX10 29 "HeapWorks$Types" "fieldCount" "[I", .fieldLink RX10 32 "HeapWorks$Types" "staticCount" "[I", .fieldLink RX10 35 "HeapWorks$Types" "slotCount" "[I", .fieldLink RX10 38 "HeapWorks$Types" "fieldsEnd" "[I", .fieldLink RX10 41 "HeapWorks$Types" "fieldName" "[J", .fieldLink RX10 44 "HeapWorks$Types" "fieldKind" "[I", .fieldLink RX10 47 "HeapWorks$Types" "fieldLink" "[I"]
def oc_69 : List Cond := [.fieldLink RX10 50 "HeapWorks$Types" "fieldStatic" "[Z", .fieldLink RX10 53 "HeapWorks$Types" "fieldPlace" "[I", .fieldLink RX10 56 "HeapWorks$Types" "slotName" "[J", .fieldLink RX10 59 "HeapWorks$Types" "slotKind" "[I", .fieldLink RX10 62 "HeapWorks$Types" "slotLink" "[I", .code yX10_init cX10_init 1 none, .methodLink RX11 18 yX10_init, .instanceMethod yX10_init, .fieldLink RX11 19 "HeapWorks" "types" "LHeapWorks$Types;", .classLink RX11 23 RX2, .instantiable RX2 14, .methodLink RX2 3 objectInit, .fieldLink RX2 9 "HeapWorks$Heap" "types" "LHeapWorks$Types;", .fieldLink RX2 15 "HeapWorks$Heap" "type" "[I", .fieldLink RX2 19 "HeapWorks$Heap" "length" "[I", .fieldLink RX2 22 "HeapWorks$Heap" "first" "[I", .fieldLink RX2 25 "HeapWorks$Heap" "value" "[J", .fieldLink RX2 29 "HeapWorks$Heap" "link" "[Z", .fieldLink RX2 35 "HeapWorks$Heap" "statics" "[J", .fieldLink RX2 38 "HeapWorks$Heap" "roots" "[I", .fieldLink RX2 41 "HeapWorks$Heap" "order" "[I", .fieldLink RX2 44 "HeapWorks$Heap" "mark" "[I", .code yX2_init cX2_init 2 none, .methodLink RX11 25 yX2_init]
def oc_70 : List Cond := [.instanceMethod yX2_init, .fieldLink RX11 28 "HeapWorks" "heap" "LHeapWorks$Heap;", .classLink RX11 32 RX3, .instantiable RX3 13, .methodLink RX3 3 objectInit, .fieldLink RX3 9 "HeapWorks$Journal" "types" "LHeapWorks$Types;", .fieldLink RX3 15 "HeapWorks$Journal" "undoWrite" "[I", .fieldLink RX3 19 "HeapWorks$Journal" "undoPlace" "[I", .fieldLink RX3 22 "HeapWorks$Journal" "undoValue" "[J", .fieldLink RX3 26 "HeapWorks$Journal" "watchType" "[I", .fieldLink RX3 29 "HeapWorks$Journal" "watchField" "[I", .fieldLink RX3 32 "HeapWorks$Journal" "watchCondition" "[I", .fieldLink RX3 35 "HeapWorks$Journal" "rowCount" "[I", .fieldLink RX3 38 "HeapWorks$Journal" "rowParts" "[J", .code yX3_init cX3_init 2 none, .methodLink RX11 34 yX3_init, .instanceMethod yX3_init, .fieldLink RX11 35 "HeapWorks" "journal" "LHeapWorks$Journal;", .classLink RX11 39 "HeapWorks$Picture", .fieldLink RX11 41 "HeapWorks" "pictures" "[LHeapWorks$Picture;", .classLink RX11 39 RX5, .instantiable RX5 21, .methodLink RX5 3 objectInit, .fieldLink RX5 11 "HeapWorks$Picture" "object" "[I"]
def oc_71 : List Cond := [.fieldLink RX5 15 "HeapWorks$Picture" "type" "[I", .fieldLink RX5 18 "HeapWorks$Picture" "length" "[I", .fieldLink RX5 21 "HeapWorks$Picture" "first" "[I", .fieldLink RX5 24 "HeapWorks$Picture" "depth" "[I", .fieldLink RX5 27 "HeapWorks$Picture" "wayThing" "[I", .fieldLink RX5 30 "HeapWorks$Picture" "waySlot" "[I", .fieldLink RX5 35 "HeapWorks$Picture" "thingOf" "[I", .methodLink RX5 38 yJ7_fill_53178, .fieldLink RX5 44 "HeapWorks$Picture" "value" "[J", .fieldLink RX5 48 "HeapWorks$Picture" "link" "[Z", .fieldLink RX5 52 "HeapWorks$Picture" "rootNumber" "[I", .fieldLink RX5 55 "HeapWorks$Picture" "rootThing" "[I", .fieldLink RX5 58 "HeapWorks$Picture" "chosen" "[Z", .fieldLink RX5 61 "HeapWorks$Picture" "lostThings" "[I", .fieldLink RX5 64 "HeapWorks$Picture" "mark" "[I", .fieldLink RX5 67 "HeapWorks$Picture" "mate" "[I", .fieldLink RX5 70 "HeapWorks$Picture" "queue" "[I", .classLink RX5 73 RX8, .instantiable RX8 18, .methodLink RX8 3 objectInit, .fieldLink RX8 9 "HeapWorks$Shape" "types" "LHeapWorks$Types;", .fieldLink RX8 17 "HeapWorks$Shape" "holderFirst" "[I", .fieldLink RX8 21 "HeapWorks$Shape" "holderThing" "[I", .fieldLink RX8 24 "HeapWorks$Shape" "holderSlot" "[I"]
def oc_72 : List Cond := [.fieldLink RX8 27 "HeapWorks$Shape" "dominator" "[I", .fieldLink RX8 30 "HeapWorks$Shape" "kept" "[I", .fieldLink RX8 33 "HeapWorks$Shape" "dominated" "[I", .fieldLink RX8 36 "HeapWorks$Shape" "ring" "[I", .fieldLink RX8 39 "HeapWorks$Shape" "twin" "[I", .fieldLink RX8 42 "HeapWorks$Shape" "order" "[I", .fieldLink RX8 45 "HeapWorks$Shape" "low" "[I", .fieldLink RX8 48 "HeapWorks$Shape" "stack" "[I", .fieldLink RX8 51 "HeapWorks$Shape" "path" "[I", .fieldLink RX8 54 "HeapWorks$Shape" "cursor" "[I", .fieldLink RX8 57 "HeapWorks$Shape" "bucket" "[I", .code yX8_init cX8_init 2 none, .methodLink RX5 75 yX8_init, .instanceMethod yX8_init, .fieldLink RX5 78 "HeapWorks$Picture" "shape" "LHeapWorks$Shape;", .code yX5_init cX5_init 2 none, .methodLink RX11 45 yX5_init, .instanceMethod yX5_init, .fieldLink RX11 46 "HeapWorks" "spare" "LHeapWorks$Picture;", .classLink RX11 50 RX6, .instantiable RX6 19, .methodLink RX6 3 objectInit, .fieldLink RX6 9 "HeapWorks$Program" "tape" "LHeapWorks$Tape;", .fieldLink RX6 15 "HeapWorks$Program" "op" "[I"]
def oc_73 : List Cond := [.fieldLink RX6 19 "HeapWorks$Program" "frame" "[I", .fieldLink RX6 22 "HeapWorks$Program" "target" "[I", .fieldLink RX6 25 "HeapWorks$Program" "detail" "[J", .fieldLink RX6 29 "HeapWorks$Program" "scopeName" "[J", .fieldLink RX6 32 "HeapWorks$Program" "scopeFrame" "[I", .fieldLink RX6 35 "HeapWorks$Program" "waiting" "[I", .code yX6_init cX6_init 2 none, .methodLink RX11 52 yX6_init, .instanceMethod yX6_init, .fieldLink RX11 55 "HeapWorks" "question" "LHeapWorks$Program;", .classLink RX11 59 RX4, .instantiable RX4 21, .methodLink RX4 5 objectInit, .fieldLink RX4 11 "HeapWorks$Machine" "types" "LHeapWorks$Types;", .fieldLink RX4 19 "HeapWorks$Machine" "sort" "[I", .fieldLink RX4 23 "HeapWorks$Machine" "value" "[J", .fieldLink RX4 27 "HeapWorks$Machine" "setKind" "[I", .fieldLink RX4 30 "HeapWorks$Machine" "source" "[I", .fieldLink RX4 33 "HeapWorks$Machine" "cursor" "[I", .fieldLink RX4 36 "HeapWorks$Machine" "bound" "[I", .fieldLink RX4 39 "HeapWorks$Machine" "current" "[I", .fieldLink RX4 42 "HeapWorks$Machine" "total" "[J", .fieldLink RX4 45 "HeapWorks$Machine" "found" "[Z", .fieldLink RX4 49 "HeapWorks$Machine" "queue" "[I"]
def oc_74 : List Cond := [.fieldLink RX4 52 "HeapWorks$Machine" "seen" "[I", .fieldLink RX4 55 "HeapWorks$Machine" "stamp" "[I", .fieldLink RX4 58 "HeapWorks$Machine" "rowThing" "[I", .fieldLink RX4 61 "HeapWorks$Machine" "rowSort" "[I", .fieldLink RX4 64 "HeapWorks$Machine" "rowValue" "[J", .code yX4_init cX4_init 2 none, .methodLink RX11 61 yX4_init, .instanceMethod yX4_init, .fieldLink RX11 62 "HeapWorks" "machine" "LHeapWorks$Machine;", .classLink RX11 50 "HeapWorks$Program", .fieldLink RX11 66 "HeapWorks" "promised" "[LHeapWorks$Program;", .fieldLink RX11 70 "HeapWorks" "brokenBy" "[I", .classLink RX11 74 RX7, .instantiable RX7 21, .methodLink RX7 3 objectInit, .fieldLink RX7 9 "HeapWorks$RuleText" "tape" "LHeapWorks$Tape;", .code yX9_codeOf cX9_codeOf 4 (some .long), .methodLink RX7 17 yX9_codeOf, .static yX9_codeOf, .fieldLink RX7 23 "HeapWorks$RuleText" "ifCode" "J", .fieldLink RX7 29 "HeapWorks$RuleText" "linkCode" "J", .fieldLink RX7 32 "HeapWorks$RuleText" "headRelation" "[I", .fieldLink RX7 36 "HeapWorks$RuleText" "headA" "[I", .fieldLink RX7 39 "HeapWorks$RuleText" "headB" "[I"]
def oc_75 : List Cond := [.fieldLink RX7 42 "HeapWorks$RuleText" "variableCount" "[I", .fieldLink RX7 45 "HeapWorks$RuleText" "bodyCount" "[I", .fieldLink RX7 48 "HeapWorks$RuleText" "bodyRelation" "[I", .fieldLink RX7 51 "HeapWorks$RuleText" "bodyA" "[I", .fieldLink RX7 54 "HeapWorks$RuleText" "bodyB" "[I", .fieldLink RX7 57 "HeapWorks$RuleText" "bodyName" "[J", .fieldLink RX7 61 "HeapWorks$RuleText" "variableName" "[J", .fieldLink RX7 64 "HeapWorks$RuleText" "relationName" "[J", .fieldLink RX7 67 "HeapWorks$RuleText" "arity" "[I", .code yX7_init cX7_init 2 none, .methodLink RX11 76 yX7_init, .instanceMethod yX7_init, .fieldLink RX11 77 "HeapWorks" "ruleText" "LHeapWorks$RuleText;", .classLink RX11 81 RX1, .instantiable RX1 10, .methodLink RX1 3 objectInit, .fieldLink RX1 9 "HeapWorks$FactBook" "types" "LHeapWorks$Types;", .fieldLink RX1 15 "HeapWorks$FactBook" "row" "[J", .fieldLink RX1 19 "HeapWorks$FactBook" "column" "[J", .fieldLink RX1 22 "HeapWorks$FactBook" "diagonal" "[J", .fieldLink RX1 27 "HeapWorks$FactBook" "classBits" "[J", .fieldLink RX1 30 "HeapWorks$FactBook" "chosen" "[I", .code yX1_init cX1_init 2 none, .methodLink RX11 83 yX1_init]
def oc_76 : List Cond := [.instanceMethod yX1_init, .fieldLink RX11 84 "HeapWorks" "factBook" "LHeapWorks$FactBook;", .classLink RX11 88 RX0, .instantiable RX0 15, .methodLink RX0 5 objectInit, .fieldLink RX0 11 "HeapWorks$Archive" "types" "LHeapWorks$Types;", .fieldLink RX0 19 "HeapWorks$Archive" "buffer" "[I", .fieldLink RX0 23 "HeapWorks$Archive" "log" "[I", .fieldLink RX0 26 "HeapWorks$Archive" "source" "[I", .fieldLink RX0 29 "HeapWorks$Archive" "objectPlace" "[I", .fieldLink RX0 32 "HeapWorks$Archive" "slotPlace" "[I", .code yX0_init cX0_init 2 none, .methodLink RX11 90 yX0_init, .instanceMethod yX0_init, .fieldLink RX11 91 "HeapWorks" "archive" "LHeapWorks$Archive;", .fieldLink RX11 95 "HeapWorks" "grownThings" "[I", .fieldLink RX11 98 "HeapWorks" "faultPlace" "I", .methodLink RX12 1 objectInit, .arrayClass .byte, .fieldLink RX12 7 "HeapWorksModel" "tape" "[B", .fieldLink RX12 13 "HeapWorksModel" "ready" "[B", .constantLong RX12 16 (6384748), .constantLong RX12 18 (7305070), .constantLong RX12 20 (127991794263923)]
def oc_77 : List Cond := [.constantLong RX12 22 (512852587109), .constantLong RX12 24 (6776180), .constantLong RX12 26 (6385252), .constantLong RX12 28 (28530), .constantLong RX12 30 (7237492), .constantLong RX12 32 (1853189228), .constantLong RX12 34 (1953658213), .constantLong RX12 36 (439721161573), .constantLong RX12 38 (26995), .constantLong RX12 40 (26990), .constantLong RX12 42 (427071729268), .constantLong RX12 44 (7566701), .constantLong RX12 46 (1836020596), .constantLong RX12 48 (465557353332), .constantLong RX12 50 (1936682341), .constantLong RX12 52 (1700881256), .constantLong RX12 54 (1936292453), .constantLong RX12 56 (1801810036), .constantLong RX12 58 (431198598248), .constantLong RX12 60 (119182899770472), .constantLong RX12 62 (427020088179), .constantLong RX12 64 (495740482675), .constantLong RX12 66 (1751477348), .constantLong RX12 68 (1718775661)]
def oc_78 : List Cond := [.constantLong RX12 70 (26996), .constantLong RX12 72 (499967946343), .fieldLink RX12 74 "HeapWorksModel" "keys" "[J", .fieldLink RX12 78 "HeapWorksModel" "className" "[J", .fieldLink RX12 81 "HeapWorksModel" "fieldName" "[J", .fieldLink RX12 84 "HeapWorksModel" "statics" "[J", .fieldLink RX12 87 "HeapWorksModel" "loader" "[I", .fieldLink RX12 91 "HeapWorksModel" "parent" "[I", .fieldLink RX12 94 "HeapWorksModel" "own" "[I", .fieldLink RX12 97 "HeapWorksModel" "slotsOf" "[I", .fieldLink RX12 100 "HeapWorksModel" "endOf" "[I", .fieldLink RX12 103 "HeapWorksModel" "fieldKind" "[I", .fieldLink RX12 106 "HeapWorksModel" "fieldLink" "[I", .fieldLink RX12 109 "HeapWorksModel" "fieldSlot" "[I", .fieldLink RX12 112 "HeapWorksModel" "fieldAt" "[I", .fieldLink RX12 115 "HeapWorksModel" "used" "[Z", .fieldLink RX12 119 "HeapWorksModel" "isStatic" "[Z", .fieldLink RX12 122 "HeapWorksModel" "apart" "[Z", .fieldLink RX12 125 "HeapWorksModel" "type" "[I", .fieldLink RX12 128 "HeapWorksModel" "length" "[I", .fieldLink RX12 131 "HeapWorksModel" "from" "[I", .fieldLink RX12 134 "HeapWorksModel" "there" "[Z", .constant RX12 137 (38500), .fieldLink RX12 138 "HeapWorksModel" "values" "[J"]
def oc_79 : List Cond := [.fieldLink RX12 141 "HeapWorksModel" "told" "[I", .fieldLink RX12 144 "HeapWorksModel" "undoObject" "[I", .fieldLink RX12 147 "HeapWorksModel" "undoSlot" "[I", .fieldLink RX12 150 "HeapWorksModel" "undoWrite" "[I", .fieldLink RX12 153 "HeapWorksModel" "undoValue" "[J", .fieldLink RX12 156 "HeapWorksModel" "watchField" "[I", .fieldLink RX12 159 "HeapWorksModel" "watchWay" "[I", .fieldLink RX12 162 "HeapWorksModel" "rowsOf" "[I", .fieldLink RX12 165 "HeapWorksModel" "rowWrite" "[I", .fieldLink RX12 168 "HeapWorksModel" "rowObject" "[I", .fieldLink RX12 171 "HeapWorksModel" "rowBefore" "[J", .fieldLink RX12 174 "HeapWorksModel" "rowBehind" "[J", .fieldLink RX12 177 "HeapWorksModel" "walked" "[I", .fieldLink RX12 180 "HeapWorksModel" "placeIn" "[I", .fieldLink RX12 183 "HeapWorksModel" "things" "[I", .fieldLink RX12 186 "HeapWorksModel" "object" "[I", .fieldLink RX12 189 "HeapWorksModel" "typeOf" "[I", .fieldLink RX12 192 "HeapWorksModel" "lengthOf" "[I", .fieldLink RX12 195 "HeapWorksModel" "slotFrom" "[I", .fieldLink RX12 198 "HeapWorksModel" "depthOf" "[I", .fieldLink RX12 201 "HeapWorksModel" "wayThing" "[I", .fieldLink RX12 204 "HeapWorksModel" "waySlot" "[I", .fieldLink RX12 207 "HeapWorksModel" "dominator" "[I", .fieldLink RX12 210 "HeapWorksModel" "kept" "[I"]
def oc_80 : List Cond := [.fieldLink RX12 213 "HeapWorksModel" "dominated" "[I", .fieldLink RX12 216 "HeapWorksModel" "ring" "[I", .fieldLink RX12 219 "HeapWorksModel" "group" "[I", .fieldLink RX12 222 "HeapWorksModel" "lost" "[I", .fieldLink RX12 225 "HeapWorksModel" "lostMany" "[I", .fieldLink RX12 228 "HeapWorksModel" "ringMany" "[I", .fieldLink RX12 231 "HeapWorksModel" "groupMany" "[I", .fieldLink RX12 234 "HeapWorksModel" "rootMany" "[I", .fieldLink RX12 237 "HeapWorksModel" "rootNumber" "[I", .fieldLink RX12 240 "HeapWorksModel" "rootThing" "[I", .fieldLink RX12 243 "HeapWorksModel" "slotValue" "[J", .fieldLink RX12 246 "HeapWorksModel" "chosen" "[Z", .fieldLink RX12 249 "HeapWorksModel" "met" "[Z", .constant RX12 252 (160000), .fieldLink RX12 253 "HeapWorksModel" "reaches" "[Z", .fieldLink RX12 256 "HeapWorksModel" "queue" "[I", .fieldLink RX12 259 "HeapWorksModel" "grown" "[I", .fieldLink RX12 262 "HeapWorksModel" "mate" "[I", .fieldLink RX12 265 "HeapWorksModel" "mateBack" "[I", .fieldLink RX12 268 "HeapWorksModel" "faultAt" "I", .fieldLink RX12 272 "HeapWorksModel" "nodeKind" "[I", .fieldLink RX12 275 "HeapWorksModel" "nodeA" "[I", .fieldLink RX12 278 "HeapWorksModel" "nodeB" "[I", .fieldLink RX12 281 "HeapWorksModel" "nodeC" "[I"]
def oc_81 : List Cond := [.fieldLink RX12 284 "HeapWorksModel" "nodeWord" "[J", .fieldLink RX12 287 "HeapWorksModel" "knownName" "[J", .fieldLink RX12 290 "HeapWorksModel" "variable" "[I", .constant RX12 293 (52800), .fieldLink RX12 294 "HeapWorksModel" "given" "[I", .fieldLink RX12 297 "HeapWorksModel" "givenMany" "[I", .fieldLink RX12 300 "HeapWorksModel" "answerThing" "[I", .fieldLink RX12 303 "HeapWorksModel" "answerSort" "[I", .fieldLink RX12 306 "HeapWorksModel" "answerValue" "[J", .fieldLink RX12 309 "HeapWorksModel" "promiseNode" "[I", .fieldLink RX12 312 "HeapWorksModel" "brokenBy" "[I", .fieldLink RX12 315 "HeapWorksModel" "relationName" "[J", .fieldLink RX12 318 "HeapWorksModel" "ruleVariable" "[J", .fieldLink RX12 321 "HeapWorksModel" "atomName" "[J", .fieldLink RX12 324 "HeapWorksModel" "arity" "[I", .fieldLink RX12 327 "HeapWorksModel" "headOf" "[I", .fieldLink RX12 330 "HeapWorksModel" "headA" "[I", .fieldLink RX12 333 "HeapWorksModel" "headB" "[I", .fieldLink RX12 336 "HeapWorksModel" "atomsOf" "[I", .fieldLink RX12 339 "HeapWorksModel" "atomKind" "[I", .fieldLink RX12 342 "HeapWorksModel" "atomRelation" "[I", .fieldLink RX12 345 "HeapWorksModel" "atomA" "[I", .fieldLink RX12 348 "HeapWorksModel" "atomB" "[I", .fieldLink RX12 351 "HeapWorksModel" "variablesOf" "[I"]
def oc_82 : List Cond := [.fieldLink RX12 354 "HeapWorksModel" "binding" "[I", .fieldLink RX12 357 "HeapWorksModel" "factOne" "[Z", .fieldLink RX12 360 "HeapWorksModel" "factTwo" "[Z", .fieldLink RX12 363 "HeapWorksModel" "bound" "[Z", .fieldLink RX12 366 "HeapWorksModel" "inHead" "[Z", .fieldLink RX12 369 "HeapWorksModel" "row0" "[B", .fieldLink RX12 372 "HeapWorksModel" "log" "[B", .fieldLink RX12 375 "HeapWorksModel" "thingAt" "[I", .fieldLink RX12 378 "HeapWorksModel" "linkAt" "[I", .fieldLink RX12 381 "HeapWorksModel" "recordAt" "[I", .code yX11_type cX11_type 5 (some .int), .methodLink RL 7 yX11_type, .instanceMethod yX11_type, .selects RX11 yX11_type yX11_type, .classLink RL 13 "java/lang/IndexOutOfBoundsException", .classLink RL 15 "java/lang/IllegalArgumentException", .classLink RL 17 "java/lang/IllegalStateException", .code yX11_field cX11_field 8 (some .int), .methodLink RL 19 yX11_field, .instanceMethod yX11_field, .selects RX11 yX11_field yX11_field, .code yX11_make cX11_make 4 (some .int), .methodLink RL 23 yX11_make, .instanceMethod yX11_make]
def oc_83 : List Cond := [.selects RX11 yX11_make yX11_make, .code yX11_root cX11_root 4 none, .methodLink RL 26 yX11_root, .instanceMethod yX11_root, .selects RX11 yX11_root yX11_root, .classLink RL 30 "java/util/NoSuchElementException", .code yX11_set cX11_set 7 (some .int), .methodLink RL 32 yX11_set, .instanceMethod yX11_set, .selects RX11 yX11_set yX11_set, .code yX11_setStatic cX11_setStatic 8 (some .int), .methodLink RL 36 yX11_setStatic, .instanceMethod yX11_setStatic, .selects RX11 yX11_setStatic yX11_setStatic, .code yX11_get cX11_get 3 (some .long), .methodLink RL 39 yX11_get, .instanceMethod yX11_get, .selects RX11 yX11_get yX11_get, .code yX11_getStatic cX11_getStatic 4 (some .long), .methodLink RL 43 yX11_getStatic, .instanceMethod yX11_getStatic, .selects RX11 yX11_getStatic yX11_getStatic, .code yX11_swap cX11_swap 4 (some .int), .methodLink RL 46 yX11_swap]
def oc_84 : List Cond := [.instanceMethod yX11_swap, .selects RX11 yX11_swap yX11_swap, .code yX11_copy cX11_copy 4 (some .int), .methodLink RL 49 yX11_copy, .instanceMethod yX11_copy, .selects RX11 yX11_copy yX11_copy, .code yX11_watch cX11_watch 4 (some .int), .methodLink RL 52 yX11_watch, .instanceMethod yX11_watch, .selects RX11 yX11_watch yX11_watch, .code yX11_row cX11_row 4 (some .long), .methodLink RL 56 yX11_row, .instanceMethod yX11_row, .selects RX11 yX11_row yX11_row, .code yX11_promise cX11_promise 3 (some .int), .methodLink RL 60 yX11_promise, .instanceMethod yX11_promise, .selects RX11 yX11_promise yX11_promise, .code yX11_broken cX11_broken 2 (some .int), .methodLink RL 64 yX11_broken, .instanceMethod yX11_broken, .selects RX11 yX11_broken yX11_broken, .code yX11_take cX11_take 2 (some .int), .methodLink RL 68 yX11_take]
def oc_85 : List Cond := [.instanceMethod yX11_take, .selects RX11 yX11_take yX11_take, .code yX11_slot cX11_slot 4 (some .long), .methodLink RL 71 yX11_slot, .instanceMethod yX11_slot, .selects RX11 yX11_slot yX11_slot, .code yX11_holder cX11_holder 7 (some .int), .methodLink RL 74 yX11_holder, .instanceMethod yX11_holder, .selects RX11 yX11_holder yX11_holder, .code yX11_member cX11_member 6 (some .int), .methodLink RL 78 yX11_member, .instanceMethod yX11_member, .selects RX11 yX11_member yX11_member, .code yX11_lost cX11_lost 2 (some .int), .methodLink RL 81 yX11_lost, .instanceMethod yX11_lost, .selects RX11 yX11_lost yX11_lost, .code yX11_growth cX11_growth 4 (some .int), .methodLink RL 84 yX11_growth, .instanceMethod yX11_growth, .selects RX11 yX11_growth yX11_growth, .code yX11_like cX11_like 5 (some .boolean), .methodLink RL 87 yX11_like]
def oc_86 : List Cond := [.instanceMethod yX11_like, .selects RX11 yX11_like yX11_like, .code yX11_ask cX11_ask 3 (some .int), .methodLink RL 91 yX11_ask, .instanceMethod yX11_ask, .selects RX11 yX11_ask yX11_ask, .code yX11_answer cX11_answer 3 (some .long), .methodLink RL 94 yX11_answer, .instanceMethod yX11_answer, .selects RX11 yX11_answer yX11_answer, .code yX11_rules cX11_rules 5 (some .int), .methodLink RL 97 yX11_rules, .instanceMethod yX11_rules, .selects RX11 yX11_rules yX11_rules, .code yX11_isFact cX11_isFact 4 (some .boolean), .methodLink RL 100 yX11_isFact, .instanceMethod yX11_isFact, .selects RX11 yX11_isFact yX11_isFact, .code yX11_bytes cX11_bytes 3 (some .int), .methodLink RL 104 yX11_bytes, .instanceMethod yX11_bytes, .selects RX11 yX11_bytes yX11_bytes, .code yX11_load cX11_load 4 (some .int), .methodLink RL 107 yX11_load]
def oc_87 : List Cond := [.instanceMethod yX11_load, .selects RX11 yX11_load yX11_load, .code yX11_keep cX11_keep 3 (some .int), .methodLink RL 110 yX11_keep, .instanceMethod yX11_keep, .selects RX11 yX11_keep yX11_keep, .code yX11_recall cX11_recall 3 (some .int), .methodLink RL 113 yX11_recall, .instanceMethod yX11_recall, .selects RX11 yX11_recall yX11_recall, .code yX11_feed cX11_feed 6 none, .methodLink RL 120 yX11_feed, .instanceMethod yX11_feed, .selects RX11 yX11_feed yX11_feed, .code yX12_feed cX12_feed 8 none, .methodLink RL 124 yX12_feed, .instanceMethod yX12_feed, .selects RX12 yX12_feed yX12_feed, .code yX11_end cX11_end 2 (some .int), .methodLink RL 125 yX11_end, .instanceMethod yX11_end, .selects RX11 yX11_end yX11_end, .code yX12_end cX12_end 3 (some .int), .methodLink RL 128 yX12_end]
def oc_88 : List Cond := [.instanceMethod yX12_end, .selects RX12 yX12_end yX12_end, .code yX11_wipe cX11_wipe 1 none, .methodLink RL 129 yX11_wipe, .instanceMethod yX11_wipe, .selects RX11 yX11_wipe yX11_wipe, .code yX12_wipe cX12_wipe 1 none, .methodLink RL 132 yX12_wipe, .instanceMethod yX12_wipe, .selects RX12 yX12_wipe yX12_wipe, .code yX11_flip cX11_flip 3 (some .boolean), .methodLink RL 133 yX11_flip, .instanceMethod yX11_flip, .selects RX11 yX11_flip yX11_flip, .code yX12_flip cX12_flip 3 (some .boolean), .methodLink RL 137 yX12_flip, .instanceMethod yX12_flip, .selects RX12 yX12_flip yX12_flip, .code yX11_cut cX11_cut 2 (some .boolean), .methodLink RL 138 yX11_cut, .instanceMethod yX11_cut, .selects RX11 yX11_cut yX11_cut, .code yX12_cut cX12_cut 2 (some .boolean), .methodLink RL 142 yX12_cut]
def oc_89 : List Cond := [.instanceMethod yX12_cut, .selects RX12 yX12_cut yX12_cut, .codeWith yL_type cL_type 5 (some .int) [(0, 10, 13, 13), (0, 10, 17, 15), (0, 10, 21, 17)], .methodLink RL 143 yL_type, .static yL_type, .initialized RL, .code yX12_type cX12_type 7 (some .int), .methodLink RL 148 yX12_type, .instanceMethod yX12_type, .selects RX12 yX12_type yX12_type, .code yX12_thrown cX12_thrown 1 (some .int), .methodLink RL 149 yX12_thrown, .instanceMethod yX12_thrown, .selects RX12 yX12_thrown yX12_thrown, .codeWith yL_field cL_field 7 (some .int) [(0, 14, 17, 13), (0, 14, 21, 15), (0, 14, 25, 17)], .methodLink RL 152 yL_field, .static yL_field, .code yX12_field cX12_field 9 (some .int), .methodLink RL 155 yX12_field, .instanceMethod yX12_field, .selects RX12 yX12_field yX12_field, .code yX11_typeLook cX11_typeLook 3 (some .int), .methodLink RL 156 yX11_typeLook, .instanceMethod yX11_typeLook]
def oc_90 : List Cond := [.selects RX11 yX11_typeLook yX11_typeLook, .code yX12_typeLook cX12_typeLook 6 (some .int), .methodLink RL 159 yX12_typeLook, .instanceMethod yX12_typeLook, .selects RX12 yX12_typeLook yX12_typeLook, .code yX11_fieldLook cX11_fieldLook 5 (some .int), .methodLink RL 160 yX11_fieldLook, .instanceMethod yX11_fieldLook, .selects RX11 yX11_fieldLook yX11_fieldLook, .code yX12_fieldLook cX12_fieldLook 5 (some .int), .methodLink RL 163 yX12_fieldLook, .instanceMethod yX12_fieldLook, .selects RX12 yX12_fieldLook yX12_fieldLook, .codeWith yL_make cL_make 5 (some .int) [(0, 10, 13, 15), (0, 10, 17, 17)], .methodLink RL 164 yL_make, .static yL_make, .code yX12_make cX12_make 4 (some .int), .methodLink RL 166 yX12_make, .instanceMethod yX12_make, .selects RX12 yX12_make yX12_make, .codeWith yL_root cL_root 4 (some .int) [(0, 6, 9, 30), (0, 6, 12, 17)], .methodLink RL 167 yL_root, .static yL_root, .code yX12_root cX12_root 5 none]
def oc_91 : List Cond := [.methodLink RL 170 yX12_root, .instanceMethod yX12_root, .selects RX12 yX12_root yX12_root, .constantLong RL 171 (4294967295), .codeWith yL_set cL_set 7 (some .int) [(0, 12, 15, 30), (0, 12, 19, 15)], .methodLink RL 173 yL_set, .static yL_set, .code yX12_set cX12_set 5 (some .int), .methodLink RL 176 yX12_set, .instanceMethod yX12_set, .selects RX12 yX12_set yX12_set, .codeWith yL_setStatic cL_setStatic 7 (some .int) [(0, 12, 15, 30), (0, 12, 19, 15)], .methodLink RL 177 yL_setStatic, .static yL_setStatic, .code yX12_setStatic cX12_setStatic 6 (some .int), .methodLink RL 179 yX12_setStatic, .instanceMethod yX12_setStatic, .selects RX12 yX12_setStatic yX12_setStatic, .codeWith yL_get cL_get 5 (some .int) [(0, 9, 12, 30)], .methodLink RL 180 yL_get, .static yL_get, .code yX12_get cX12_get 3 (some .long), .methodLink RL 182 yX12_get, .instanceMethod yX12_get]
def oc_92 : List Cond := [.selects RX12 yX12_get yX12_get, .codeWith yL_getStatic cL_getStatic 5 (some .int) [(0, 9, 12, 30)], .methodLink RL 183 yL_getStatic, .static yL_getStatic, .code yX12_getStatic cX12_getStatic 4 (some .long), .methodLink RL 185 yX12_getStatic, .instanceMethod yX12_getStatic, .selects RX12 yX12_getStatic yX12_getStatic, .code yX11_object cX11_object 3 (some .int), .methodLink RL 186 yX11_object, .instanceMethod yX11_object, .selects RX11 yX11_object yX11_object, .code yX12_object cX12_object 3 (some .int), .methodLink RL 189 yX12_object, .instanceMethod yX12_object, .selects RX12 yX12_object yX12_object, .code yX11_collect cX11_collect 1 (some .int), .methodLink RL 190 yX11_collect, .instanceMethod yX11_collect, .selects RX11 yX11_collect yX11_collect, .code yX12_collect cX12_collect 3 (some .int), .methodLink RL 193 yX12_collect, .instanceMethod yX12_collect, .selects RX12 yX12_collect yX12_collect]
def oc_93 : List Cond := [.code yX11_undo cX11_undo 1 (some .int), .methodLink RL 194 yX11_undo, .instanceMethod yX11_undo, .selects RX11 yX11_undo yX11_undo, .code yX12_undo cX12_undo 2 (some .int), .methodLink RL 197 yX12_undo, .instanceMethod yX12_undo, .selects RX12 yX12_undo yX12_undo, .codeWith yL_swap cL_swap 5 (some .int) [(0, 10, 13, 30), (0, 10, 17, 15)], .methodLink RL 198 yL_swap, .static yL_swap, .code yX12_swap cX12_swap 9 (some .int), .methodLink RL 200 yX12_swap, .instanceMethod yX12_swap, .selects RX12 yX12_swap yX12_swap, .codeWith yL_copy cL_copy 5 (some .int) [(0, 10, 13, 30), (0, 10, 17, 15), (0, 10, 21, 17)], .methodLink RL 201 yL_copy, .static yL_copy, .code yX12_copy cX12_copy 11 (some .int), .methodLink RL 203 yX12_copy, .instanceMethod yX12_copy, .selects RX12 yX12_copy yX12_copy, .code yX11_apart cX11_apart 3 (some .boolean), .methodLink RL 204 yX11_apart]
def oc_94 : List Cond := [.instanceMethod yX11_apart, .selects RX11 yX11_apart yX11_apart, .code yX12_apart cX12_apart 3 (some .boolean), .methodLink RL 208 yX12_apart, .instanceMethod yX12_apart, .selects RX12 yX12_apart yX12_apart, .codeWith yL_watch cL_watch 6 (some .int) [(0, 12, 15, 30), (0, 12, 19, 15), (0, 12, 23, 17)], .methodLink RL 209 yL_watch, .static yL_watch, .code yX12_watch cX12_watch 4 (some .int), .methodLink RL 212 yX12_watch, .instanceMethod yX12_watch, .selects RX12 yX12_watch yX12_watch, .methodLink RL 213 yX11_rows, .code yX12_rows cX12_rows 2 (some .int), .methodLink RL 216 yX12_rows, .instanceMethod yX12_rows, .selects RX12 yX12_rows yX12_rows, .codeWith yL_row cL_row 6 (some .int) [(0, 11, 14, 30)], .methodLink RL 217 yL_row, .static yL_row, .code yX12_row cX12_row 5 (some .long), .methodLink RL 219 yX12_row, .instanceMethod yX12_row]
def oc_95 : List Cond := [.selects RX12 yX12_row yX12_row, .codeWith yL_promise cL_promise 3 (some .int) [(0, 8, 11, 17), (0, 8, 14, 15)], .methodLink RL 220 yL_promise, .static yL_promise, .code yX12_promise cX12_promise 3 (some .int), .methodLink RL 223 yX12_promise, .instanceMethod yX12_promise, .selects RX12 yX12_promise yX12_promise, .codeWith yL_broken cL_broken 4 (some .int) [(0, 9, 12, 30)], .methodLink RL 224 yL_broken, .static yL_broken, .code yX12_broken cX12_broken 2 (some .int), .methodLink RL 227 yX12_broken, .instanceMethod yX12_broken, .selects RX12 yX12_broken yX12_broken, .codeWith yL_take cL_take 4 (some .int) [(0, 9, 12, 13)], .methodLink RL 228 yL_take, .static yL_take, .code yX12_take cX12_take 2 (some .int), .methodLink RL 230 yX12_take, .instanceMethod yX12_take, .selects RX12 yX12_take yX12_take, .code yX11_thing cX11_thing 5 (some .int), .methodLink RL 231 yX11_thing]
def oc_96 : List Cond := [.instanceMethod yX11_thing, .selects RX11 yX11_thing yX11_thing, .code yX12_thing cX12_thing 5 (some .int), .methodLink RL 234 yX12_thing, .instanceMethod yX12_thing, .selects RX12 yX12_thing yX12_thing, .codeWith yL_slot cL_slot 6 (some .int) [(0, 11, 14, 30)], .methodLink RL 235 yL_slot, .static yL_slot, .code yX12_slot cX12_slot 4 (some .long), .methodLink RL 237 yX12_slot, .instanceMethod yX12_slot, .selects RX12 yX12_slot yX12_slot, .codeWith yL_holder cL_holder 7 (some .int) [(0, 14, 17, 30)], .methodLink RL 238 yL_holder, .static yL_holder, .code yX12_holder cX12_holder 9 (some .int), .methodLink RL 241 yX12_holder, .instanceMethod yX12_holder, .selects RX12 yX12_holder yX12_holder, .code yX11_picture cX11_picture 4 (some .int), .methodLink RL 242 yX11_picture, .instanceMethod yX11_picture, .selects RX11 yX11_picture yX11_picture]
def oc_97 : List Cond := [.code yX12_picture cX12_picture 10 (some .int), .methodLink RL 245 yX12_picture, .instanceMethod yX12_picture, .selects RX12 yX12_picture yX12_picture, .codeWith yL_member cL_member 7 (some .int) [(0, 14, 17, 30)], .methodLink RL 246 yL_member, .static yL_member, .code yX12_member cX12_member 8 (some .int), .methodLink RL 248 yX12_member, .instanceMethod yX12_member, .selects RX12 yX12_member yX12_member, .code yX11_choose cX11_choose 4 (some .boolean), .methodLink RL 249 yX11_choose, .instanceMethod yX11_choose, .selects RX11 yX11_choose yX11_choose, .code yX12_choose cX12_choose 4 (some .boolean), .methodLink RL 253 yX12_choose, .instanceMethod yX12_choose, .selects RX12 yX12_choose yX12_choose, .codeWith yL_lost cL_lost 4 (some .int) [(0, 9, 12, 13)], .methodLink RL 254 yL_lost, .static yL_lost, .code yX12_lost cX12_lost 3 (some .int), .methodLink RL 256 yX12_lost]
def oc_98 : List Cond := [.instanceMethod yX12_lost, .selects RX12 yX12_lost yX12_lost, .code yX11_lostThing cX11_lostThing 3 (some .int), .methodLink RL 257 yX11_lostThing, .instanceMethod yX11_lostThing, .selects RX11 yX11_lostThing yX11_lostThing, .code yX12_lostThing cX12_lostThing 3 (some .int), .methodLink RL 260 yX12_lostThing, .instanceMethod yX12_lostThing, .selects RX12 yX12_lostThing yX12_lostThing, .codeWith yL_growth cL_growth 6 (some .int) [(0, 12, 15, 13)], .methodLink RL 261 yL_growth, .static yL_growth, .code yX12_growth cX12_growth 8 (some .int), .methodLink RL 263 yX12_growth, .instanceMethod yX12_growth, .selects RX12 yX12_growth yX12_growth, .code yX11_grown cX11_grown 2 (some .int), .methodLink RL 264 yX11_grown, .instanceMethod yX11_grown, .selects RX11 yX11_grown yX11_grown, .code yX12_grown cX12_grown 2 (some .int), .methodLink RL 267 yX12_grown, .instanceMethod yX12_grown]
def oc_99 : List Cond := [.selects RX12 yX12_grown yX12_grown, .codeWith yL_like cL_like 7 (some .int) [(0, 21, 24, 30)], .methodLink RL 268 yL_like, .static yL_like, .code yX12_like cX12_like 15 (some .boolean), .methodLink RL 270 yX12_like, .instanceMethod yX12_like, .selects RX12 yX12_like yX12_like, .codeWith yL_ask cL_ask 4 (some .int) [(0, 9, 12, 13), (0, 9, 15, 15)], .methodLink RL 271 yL_ask, .static yL_ask, .code yX12_ask cX12_ask 5 (some .int), .methodLink RL 273 yX12_ask, .instanceMethod yX12_ask, .selects RX12 yX12_ask yX12_ask, .codeWith yL_answer cL_answer 5 (some .int) [(0, 9, 12, 30)], .methodLink RL 274 yL_answer, .static yL_answer, .code yX12_answer cX12_answer 3 (some .long), .methodLink RL 276 yX12_answer, .instanceMethod yX12_answer, .selects RX12 yX12_answer yX12_answer, .codeWith yL_rules cL_rules 4 (some .int) [(0, 9, 12, 13), (0, 9, 15, 17), (0, 9, 18, 15)], .methodLink RL 277 yL_rules]
def oc_100 : List Cond := [.static yL_rules, .code yX12_rules cX12_rules 4 (some .int), .methodLink RL 279 yX12_rules, .instanceMethod yX12_rules, .selects RX12 yX12_rules yX12_rules, .code yX11_facts cX11_facts 2 (some .int), .methodLink RL 280 yX11_facts, .instanceMethod yX11_facts, .selects RX11 yX11_facts yX11_facts, .code yX12_facts cX12_facts 2 (some .int), .methodLink RL 283 yX12_facts, .instanceMethod yX12_facts, .selects RX12 yX12_facts yX12_facts, .codeWith yL_isFact cL_isFact 6 (some .int) [(0, 19, 22, 30)], .methodLink RL 284 yL_isFact, .static yL_isFact, .code yX12_isFact cX12_isFact 5 (some .boolean), .methodLink RL 286 yX12_isFact, .instanceMethod yX12_isFact, .selects RX12 yX12_isFact yX12_isFact, .code yX11_fault cX11_fault 2 (some .int), .methodLink RL 287 yX11_fault, .instanceMethod yX11_fault, .selects RX11 yX11_fault yX11_fault]
def oc_101 : List Cond := [.code yX12_fault cX12_fault 2 (some .int), .methodLink RL 290 yX12_fault, .instanceMethod yX12_fault, .selects RX12 yX12_fault yX12_fault, .codeWith yL_bytes cL_bytes 4 (some .int) [(0, 9, 12, 13), (0, 9, 15, 17)], .methodLink RL 291 yL_bytes, .static yL_bytes, .code yX12_bytes cX12_bytes 3 (some .int), .methodLink RL 293 yX12_bytes, .instanceMethod yX12_bytes, .selects RX12 yX12_bytes yX12_bytes, .code yX11_letter cX11_letter 2 (some .int), .methodLink RL 294 yX11_letter, .instanceMethod yX11_letter, .selects RX11 yX11_letter yX11_letter, .code yX12_letter cX12_letter 2 (some .int), .methodLink RL 297 yX12_letter, .instanceMethod yX12_letter, .selects RX12 yX12_letter yX12_letter, .codeWith yL_load cL_load 4 (some .int) [(0, 9, 12, 13), (0, 9, 15, 15)], .methodLink RL 298 yL_load, .static yL_load, .code yX12_load cX12_load 3 (some .int), .methodLink RL 300 yX12_load]
def oc_102 : List Cond := [.instanceMethod yX12_load, .selects RX12 yX12_load yX12_load, .codeWith yL_keep cL_keep 4 (some .int) [(0, 9, 12, 13), (0, 9, 15, 17)], .methodLink RL 301 yL_keep, .static yL_keep, .code yX12_keep cX12_keep 3 (some .int), .methodLink RL 303 yX12_keep, .instanceMethod yX12_keep, .selects RX12 yX12_keep yX12_keep, .code yX11_reopen cX11_reopen 2 (some .int), .methodLink RL 304 yX11_reopen, .instanceMethod yX11_reopen, .selects RX11 yX11_reopen yX11_reopen, .code yX12_reopen cX12_reopen 5 (some .int), .methodLink RL 307 yX12_reopen, .instanceMethod yX12_reopen, .selects RX12 yX12_reopen yX12_reopen, .codeWith yL_recall cL_recall 5 (some .int) [(0, 10, 13, 13), (0, 10, 17, 30)], .methodLink RL 308 yL_recall, .static yL_recall, .code yX12_recall cX12_recall 3 (some .int), .methodLink RL 310 yX12_recall, .instanceMethod yX12_recall, .selects RX12 yX12_recall yX12_recall]
def oc_103 : List Cond := [.code yX11_about cX11_about 2 (some .int), .methodLink RL 311 yX11_about, .instanceMethod yX11_about, .selects RX11 yX11_about yX11_about, .code yX12_about cX12_about 4 (some .int), .methodLink RL 314 yX12_about, .instanceMethod yX12_about, .selects RX12 yX12_about yX12_about, .classLink RL 8 RX11, .instantiable RX11 18, .classLink RL 117 RX12, .instantiable RX12 150, .code yX11_init cX11_init 2 none, .methodLink RL 116 yX11_init, .instanceMethod yX11_init, .code yX12_init cX12_init 2 none, .methodLink RL 119 yX12_init, .instanceMethod yX12_init, .fieldLink RX0 35 "HeapWorks$Archive" "filled" "I", .fieldLink RX0 43 "HeapWorks$Picture" "things" "I", .fieldLink RX0 70 "HeapWorks$Picture" "roots" "I", .fieldLink RX0 73 "HeapWorks$Picture" "rootNumber" "[I", .fieldLink RX0 76 "HeapWorks$Picture" "rootThing" "[I", .fieldLink RX0 50 "HeapWorks$Picture" "object" "[I"]
def oc_104 : List Cond := [.fieldLink RX0 53 "HeapWorks$Picture" "type" "[I", .fieldLink RX0 56 "HeapWorks$Picture" "length" "[I", .fieldLink RX0 59 "HeapWorks$Picture" "first" "[I", .fieldLink RX0 62 "HeapWorks$Picture" "value" "[J", .fieldLink RX0 66 "HeapWorks$Picture" "link" "[Z", .fieldLink RX5 82 "HeapWorks$Picture" "things" "I", .fieldLink RX0 98 "HeapWorks$Archive" "at" "I", .fieldLink RX0 95 "HeapWorks$Archive" "limit" "I", .fieldLink RX0 92 "HeapWorks$Archive" "begin" "I", .fieldLink RX0 134 "HeapWorks$Archive" "numberPlace" "I", .fieldLink RX0 101 "HeapWorks$Archive" "fault" "I", .fieldLink RX10 65 "HeapWorks$Types" "count" "I", .fieldLink RX0 155 "HeapWorks$Picture" "thingOf" "[I", .fieldLink RX5 86 "HeapWorks$Picture" "roots" "I", .fieldLink RX0 197 "HeapWorks$Archive" "logSize" "I", .fieldLink RX0 206 "HeapWorks$Archive" "records" "I", .fieldLink RX1 38 "HeapWorks$Picture" "things" "I", .fieldLink RX1 50 "HeapWorks$FactBook" "things" "I", .fieldLink RX1 80 "HeapWorks$Picture" "first" "[I", .fieldLink RX1 83 "HeapWorks$Picture" "link" "[Z", .fieldLink RX1 87 "HeapWorks$Picture" "value" "[J", .fieldLink RX1 34 "HeapWorks$FactBook" "text" "LHeapWorks$RuleText;", .fieldLink RX1 73 "HeapWorks$RuleText" "rules" "I", .fieldLink RX1 96 "HeapWorks$RuleText" "bodyCount" "[I"]
def oc_105 : List Cond := [.fieldLink RX1 99 "HeapWorks$RuleText" "bodyRelation" "[I", .fieldLink RX1 102 "HeapWorks$Picture" "type" "[I", .fieldLink RX1 105 "HeapWorks$RuleText" "bodyName" "[J", .fieldLink RX1 68 "HeapWorks$FactBook" "changed" "Z", .fieldLink RX1 51 "HeapWorks$FactBook" "full" "J", .fieldLink RX1 130 "HeapWorks$RuleText" "bodyA" "[I", .fieldLink RX1 133 "HeapWorks$RuleText" "bodyB" "[I", .fieldLink RX1 118 "HeapWorks$RuleText" "variableCount" "[I", .fieldLink RX1 121 "HeapWorks$RuleText" "headA" "[I", .fieldLink RX1 127 "HeapWorks$RuleText" "headRelation" "[I", .fieldLink RX1 124 "HeapWorks$RuleText" "headB" "[I", .fieldLink RX2 47 "HeapWorks$Heap" "made" "I", .fieldLink RX2 62 "HeapWorks$Heap" "slots" "I", .fieldLink RX2 75 "HeapWorks$Heap" "there" "I", .fieldLink RX2 89 "HeapWorks$Heap" "rootCount" "I", .fieldLink RX2 106 "HeapWorks$Types" "fieldLink" "[I", .fieldLink RX3 41 "HeapWorks$Heap" "first" "[I", .fieldLink RX3 46 "HeapWorks$Heap" "value" "[J", .fieldLink RX3 116 "HeapWorks$Journal" "undoStart" "I", .fieldLink RX3 119 "HeapWorks$Journal" "undoCount" "I", .fieldLink RX3 85 "HeapWorks$Journal" "writes" "I", .fieldLink RX3 53 "HeapWorks$Journal" "watches" "I", .fieldLink RX3 59 "HeapWorks$Types" "fieldStatic" "[Z", .fieldLink RX3 122 "HeapWorks$Types" "fieldKind" "[I"]
def oc_106 : List Cond := [.fieldLink RX3 63 "HeapWorks$Types" "fieldPlace" "[I", .fieldLink RX3 66 "HeapWorks$Heap" "type" "[I", .fieldLink RX3 88 "HeapWorks$Heap" "statics" "[J", .fieldLink RX3 91 "HeapWorks$Heap" "made" "I", .fieldLink RX3 98 "HeapWorks$Heap" "link" "[Z", .fieldLink RX4 67 "HeapWorks$Machine" "top" "I", .fieldLink RX4 86 "HeapWorks$Program" "usesHolders" "Z", .fieldLink RX4 100 "HeapWorks$Program" "usesKept" "Z", .fieldLink RX4 75 "HeapWorks$Machine" "program" "LHeapWorks$Program;", .fieldLink RX4 107 "HeapWorks$Program" "steps" "I", .fieldLink RX4 83 "HeapWorks$Machine" "meter" "I", .fieldLink RX4 114 "HeapWorks$Program" "op" "[I", .fieldLink RX4 260 "HeapWorks$Program" "target" "[I", .fieldLink RX4 145 "HeapWorks$Program" "frame" "[I", .fieldLink RX4 79 "HeapWorks$Machine" "picture" "LHeapWorks$Picture;", .fieldLink RX4 194 "HeapWorks$Picture" "link" "[Z", .fieldLink RX4 197 "HeapWorks$Picture" "value" "[J", .fieldLink RX4 90 "HeapWorks$Picture" "shape" "LHeapWorks$Shape;", .fieldLink RX4 245 "HeapWorks$Shape" "holderThing" "[I", .fieldLink RX4 160 "HeapWorks$Picture" "type" "[I", .fieldLink RX4 142 "HeapWorks$Picture" "things" "I", .fieldLink RX4 191 "HeapWorks$Picture" "first" "[I", .fieldLink RX4 121 "HeapWorks$Program" "detail" "[J", .fieldLink RX4 277 "HeapWorks$Machine" "rowCount" "I"]
def oc_107 : List Cond := [.fieldLink RX4 230 "HeapWorks$Types" "count" "I", .fieldLink RX4 233 "HeapWorks$Types" "name" "[J", .fieldLink RX4 236 "HeapWorks$Shape" "holderFirst" "[I", .fieldLink RX4 168 "HeapWorks$Picture" "length" "[I", .fieldLink RX4 174 "HeapWorks$Shape" "kept" "[I", .fieldLink RX4 177 "HeapWorks$Picture" "depth" "[I", .fieldLink RX8 60 "HeapWorks$Shape" "known" "I", .fieldLink RX8 64 "HeapWorks$Picture" "things" "I", .fieldLink RX8 104 "HeapWorks$Picture" "type" "[I", .fieldLink RX8 107 "HeapWorks$Picture" "length" "[I", .fieldLink RX8 73 "HeapWorks$Picture" "roots" "I", .fieldLink RX8 79 "HeapWorks$Picture" "first" "[I", .fieldLink RX8 82 "HeapWorks$Picture" "link" "[Z", .fieldLink RX8 86 "HeapWorks$Picture" "value" "[J", .fieldLink RX8 76 "HeapWorks$Picture" "rootThing" "[I", .fieldLink RX8 92 "HeapWorks$Picture" "rootNumber" "[I", .fieldLink RX5 98 "HeapWorks$Heap" "rootCount" "I", .fieldLink RX5 107 "HeapWorks$Heap" "types" "LHeapWorks$Types;", .fieldLink RX5 152 "HeapWorks$Heap" "first" "[I", .fieldLink RX5 153 "HeapWorks$Heap" "value" "[J", .fieldLink RX5 154 "HeapWorks$Heap" "link" "[Z", .fieldLink RX5 138 "HeapWorks$Heap" "type" "[I", .fieldLink RX5 139 "HeapWorks$Heap" "length" "[I", .fieldLink RX5 121 "HeapWorks$Heap" "statics" "[J"]
def oc_108 : List Cond := [.fieldLink RX5 101 "HeapWorks$Heap" "roots" "[I", .fieldLink RX5 159 "HeapWorks$Shape" "holderFirst" "[I", .fieldLink RX5 165 "HeapWorks$Shape" "dominator" "[I", .fieldLink RX5 168 "HeapWorks$Shape" "kept" "[I", .fieldLink RX5 171 "HeapWorks$Shape" "dominated" "[I", .fieldLink RX8 142 "HeapWorks$Shape" "rings" "I", .fieldLink RX5 179 "HeapWorks$Shape" "ring" "[I", .fieldLink RX5 182 "HeapWorks$Shape" "rings" "I", .fieldLink RX8 159 "HeapWorks$Shape" "twins" "I", .fieldLink RX5 192 "HeapWorks$Shape" "twin" "[I", .fieldLink RX5 195 "HeapWorks$Shape" "twins" "I", .fieldLink RX5 89 "HeapWorks$Picture" "lostCount" "I", .fieldLink RX9 69 "HeapWorks$Tape" "at" "I", .fieldLink RX9 49 "HeapWorks$Tape" "size" "I", .fieldLink RX9 78 "HeapWorks$Tape" "place" "I", .fieldLink RX9 81 "HeapWorks$Tape" "code" "J", .fieldLink RX9 75 "HeapWorks$Tape" "word" "I", .fieldLink RX9 85 "HeapWorks$Tape" "next" "I", .fieldLink RX6 45 "HeapWorks$Tape" "word" "I", .fieldLink RX6 87 "HeapWorks$Program" "nodes" "I", .fieldLink RX6 111 "HeapWorks$Tape" "place" "I", .fieldLink RX6 72 "HeapWorks$Program" "steps" "I", .fieldLink RX6 118 "HeapWorks$Tape" "code" "J", .fieldLink RX6 99 "HeapWorks$Program" "waits" "I"]
def oc_109 : List Cond := [.fieldLink RX6 90 "HeapWorks$Program" "nest" "I", .fieldLink RX6 96 "HeapWorks$Program" "scopes" "I", .fieldLink RX6 62 "HeapWorks$Program" "itKnown" "Z", .fieldLink RX6 93 "HeapWorks$Program" "folds" "I", .fieldLink RX7 86 "HeapWorks$Tape" "word" "I", .fieldLink RX7 100 "HeapWorks$Tape" "code" "J", .fieldLink RX7 70 "HeapWorks$RuleText" "rules" "I", .fieldLink RX7 93 "HeapWorks$Tape" "place" "I", .fieldLink RX7 74 "HeapWorks$RuleText" "relations" "I", .fieldLink RX7 110 "HeapWorks$RuleText" "variables" "I", .fieldLink RX7 113 "HeapWorks$RuleText" "bound" "I", .fieldLink RX11 110 "HeapWorks$Tape" "size" "I", .fieldLink RX11 113 "HeapWorks$Tape" "bytes" "[I", .fieldLink RX11 130 "HeapWorks$Types" "count" "I", .fieldLink RX11 147 "HeapWorks$Types" "used" "[Z", .fieldLink RX11 151 "HeapWorks$Types" "fieldCount" "[I", .fieldLink RX11 161 "HeapWorks$Heap" "statics" "[J", .fieldLink RX11 169 "HeapWorks$Types" "parent" "[I", .fieldLink RX11 172 "HeapWorks$Types" "loader" "[I", .fieldLink RX11 175 "HeapWorks$Types" "slotCount" "[I", .fieldLink RX11 182 "HeapWorks$Types" "staticCount" "[I", .fieldLink RX11 192 "HeapWorks$Types" "fieldKind" "[I", .fieldLink RX11 195 "HeapWorks$Types" "fieldLink" "[I", .fieldLink RX11 198 "HeapWorks$Types" "fieldStatic" "[Z"]
def oc_110 : List Cond := [.fieldLink RX11 201 "HeapWorks$Types" "fieldPlace" "[I", .fieldLink RX11 228 "HeapWorks$Heap" "rootCount" "I", .fieldLink RX11 231 "HeapWorks$Heap" "roots" "[I", .fieldLink RX11 241 "HeapWorks$Heap" "type" "[I", .fieldLink RX11 327 "HeapWorks" "promiseCount" "I", .fieldLink RX11 268 "HeapWorks$Heap" "value" "[J", .fieldLink RX11 271 "HeapWorks$Heap" "first" "[I", .fieldLink RX11 274 "HeapWorks$Heap" "length" "[I", .fieldLink RX11 301 "HeapWorks$Journal" "writes" "I", .fieldLink RX11 307 "HeapWorks$Types" "apart" "[Z", .fieldLink RX11 310 "HeapWorks$Journal" "watches" "I", .fieldLink RX11 317 "HeapWorks$Journal" "rowCount" "[I", .fieldLink RX11 334 "HeapWorks$Program" "fault" "I", .fieldLink RX11 337 "HeapWorks$Program" "place" "I", .fieldLink RX11 357 "HeapWorks$Picture" "things" "I", .fieldLink RX11 363 "HeapWorks$Picture" "object" "[I", .fieldLink RX11 366 "HeapWorks$Picture" "type" "[I", .fieldLink RX11 367 "HeapWorks$Picture" "length" "[I", .fieldLink RX11 368 "HeapWorks$Picture" "depth" "[I", .fieldLink RX11 371 "HeapWorks$Picture" "wayThing" "[I", .fieldLink RX11 374 "HeapWorks$Picture" "waySlot" "[I", .fieldLink RX11 395 "HeapWorks$Picture" "first" "[I", .fieldLink RX11 396 "HeapWorks$Picture" "value" "[J", .fieldLink RX11 397 "HeapWorks$Picture" "shape" "LHeapWorks$Shape;"]
def oc_111 : List Cond := [.fieldLink RX11 401 "HeapWorks$Shape" "holderFirst" "[I", .fieldLink RX11 409 "HeapWorks$Shape" "holderSlot" "[I", .fieldLink RX11 406 "HeapWorks$Shape" "holderThing" "[I", .fieldLink RX11 439 "HeapWorks$Picture" "chosen" "[Z", .fieldLink RX11 445 "HeapWorks$Picture" "lostCount" "I", .fieldLink RX11 448 "HeapWorks$Picture" "lostThings" "[I", .fieldLink RX11 455 "HeapWorks" "grownCount" "I", .fieldLink RX11 470 "HeapWorks" "faultCode" "I", .fieldLink RX11 465 "HeapWorks$Machine" "rowCount" "I", .fieldLink RX11 479 "HeapWorks$Machine" "rowValue" "[J", .fieldLink RX11 476 "HeapWorks$Machine" "rowSort" "[I", .fieldLink RX11 473 "HeapWorks$Machine" "rowThing" "[I", .fieldLink RX11 485 "HeapWorks$RuleText" "fault" "I", .fieldLink RX11 486 "HeapWorks$RuleText" "place" "I", .fieldLink RX11 491 "HeapWorks$RuleText" "relations" "I", .fieldLink RX11 495 "HeapWorks$RuleText" "arity" "[I", .fieldLink RX11 506 "HeapWorks$Archive" "buffer" "[I", .fieldLink RX11 519 "HeapWorks$Archive" "fault" "I", .fieldLink RX11 520 "HeapWorks$Archive" "place" "I", .fieldLink RX11 530 "HeapWorks$Archive" "records" "I", .fieldLink RX11 541 "HeapWorks$Heap" "there" "I", .fieldLink RX11 544 "HeapWorks$Heap" "slots" "I", .fieldLink RX11 547 "HeapWorks$Journal" "undoCount" "I", .fieldLink RX11 550 "HeapWorks$Archive" "logSize" "I"]
def oc_112 : List Cond := [.fieldLink RX12 388 "HeapWorksModel" "thrown" "I", .fieldLink RX12 391 "HeapWorksModel" "taped" "I", .fieldLink RX12 413 "HeapWorksModel" "classes" "I", .fieldLink RX12 435 "HeapWorksModel" "objects" "I", .fieldLink RX12 452 "HeapWorksModel" "valuesUsed" "I", .fieldLink RX12 461 "HeapWorksModel" "slotsThere" "I", .fieldLink RX12 470 "HeapWorksModel" "toldMany" "I", .fieldLink RX12 479 "HeapWorksModel" "undos" "I", .fieldLink RX12 482 "HeapWorksModel" "writes" "I", .fieldLink RX12 485 "HeapWorksModel" "watches" "I", .fieldLink RX12 872 "HeapWorksModel" "promises" "I", .fieldLink RX12 522 "HeapWorksModel" "walkedMany" "I", .fieldLink RX12 869 "HeapWorksModel" "asksKept" "Z", .fieldLink RX12 581 "HeapWorksModel" "queued" "I", .fieldLink RX12 782 "HeapWorksModel" "spent" "Z", .fieldLink RX12 826 "HeapWorksModel" "over" "I", .fieldLink RX12 810 "HeapWorksModel" "itThing" "I", .fieldLink RX12 779 "HeapWorksModel" "meter" "I", .fieldLink RX12 785 "HeapWorksModel" "sort" "I", .fieldLink RX12 788 "HeapWorksModel" "value" "J", .fieldLink RX12 846 "HeapWorksModel" "level" "I", .fieldLink RX12 612 "HeapWorksModel" "grownMany" "I", .fieldLink RX12 625 "HeapWorksModel" "stop" "I", .fieldLink RX12 631 "HeapWorksModel" "at0" "I"]
def oc_113 : List Cond := [.fieldLink RX12 637 "HeapWorksModel" "from0" "I", .fieldLink RX12 640 "HeapWorksModel" "word" "J", .fieldLink RX12 644 "HeapWorksModel" "kind" "I", .fieldLink RX12 673 "HeapWorksModel" "nodeBase" "I", .fieldLink RX12 670 "HeapWorksModel" "nodes" "I", .fieldLink RX12 676 "HeapWorksModel" "nested" "I", .fieldLink RX12 761 "HeapWorksModel" "known" "I", .fieldLink RX12 764 "HeapWorksModel" "hasIt" "Z", .fieldLink RX12 628 "HeapWorksModel" "stopAt" "I", .fieldLink RX12 776 "HeapWorksModel" "fault" "I", .fieldLink RX12 852 "HeapWorksModel" "answers" "I", .fieldLink RX12 888 "HeapWorksModel" "ruleVariables" "I", .fieldLink RX12 905 "HeapWorksModel" "relations" "I", .fieldLink RX12 908 "HeapWorksModel" "rules" "I", .fieldLink RX12 894 "HeapWorksModel" "readA" "I", .fieldLink RX12 897 "HeapWorksModel" "readB" "I", .fieldLink RX12 933 "HeapWorksModel" "grows" "Z", .fieldLink RX12 953 "HeapWorksModel" "rowEnd" "I", .fieldLink RX12 975 "HeapWorksModel" "rowAt" "I", .fieldLink RX12 978 "HeapWorksModel" "numberAt" "I", .fieldLink RX12 991 "HeapWorksModel" "readSlots" "I", .fieldLink RX12 1030 "HeapWorksModel" "records" "I", .fieldLink RX12 1027 "HeapWorksModel" "logged" "I", .fieldLink RX0 104 "HeapWorks$Archive" "place" "I"]
def oc_114 : List Cond := [.fieldLink RX5 92 "HeapWorks$Shape" "known" "I", .fieldLink RX6 75 "HeapWorks$Program" "fault" "I", .fieldLink RX6 78 "HeapWorks$Program" "place" "I", .fieldLink RX6 81 "HeapWorks$Program" "usesHolders" "Z", .fieldLink RX6 84 "HeapWorks$Program" "usesKept" "Z", .fieldLink RX7 77 "HeapWorks$RuleText" "fault" "I", .fieldLink RX7 80 "HeapWorks$RuleText" "place" "I"]
def on_131 : List Cond := ((vx_at0 RX11 224 "java/util/NoSuchElementException" ["java/lang/RuntimeException", "java/lang/Exception"]).filter goodWord) ++ ([] : List Cond)
def on_130 : List Cond := ((vx_at0 RX11 139 "java/lang/IllegalStateException" ["java/lang/RuntimeException", "java/lang/Exception"]).filter goodWord) ++ on_131
def on_129 : List Cond := ((vx_at0 RX11 129 "java/lang/IllegalArgumentException" ["java/lang/RuntimeException", "java/lang/Exception"]).filter goodWord) ++ on_130
def on_128 : List Cond := ((vx_at0 RX11 122 "java/lang/IndexOutOfBoundsException" ["java/lang/RuntimeException", "java/lang/Exception"]).filter goodWord) ++ on_129
def on_127 : List Cond := wsX90 ++ on_128
def on_126 : List Cond := wsX80 ++ on_127
def on_125 : List Cond := wsX70 ++ on_126
def on_124 : List Cond := wsX60 ++ on_125
def on_123 : List Cond := wsX50 ++ on_124
def on_122 : List Cond := wsX40 ++ on_123
def on_121 : List Cond := wsX30 ++ on_122
def on_120 : List Cond := wsX20 ++ on_121
def on_119 : List Cond := wsX120 ++ on_120
def on_118 : List Cond := wsX110 ++ on_119
def on_117 : List Cond := wsX100 ++ on_118
def on_116 : List Cond := wsX10 ++ on_117
def on_115 : List Cond := wsX00 ++ on_116
def on_114 : List Cond := oc_114 ++ on_115
def on_113 : List Cond := oc_113 ++ on_114
def on_112 : List Cond := oc_112 ++ on_113
def on_111 : List Cond := oc_111 ++ on_112
def on_110 : List Cond := oc_110 ++ on_111
def on_109 : List Cond := oc_109 ++ on_110
def on_108 : List Cond := oc_108 ++ on_109
def on_107 : List Cond := oc_107 ++ on_108
def on_106 : List Cond := oc_106 ++ on_107
def on_105 : List Cond := oc_105 ++ on_106
def on_104 : List Cond := oc_104 ++ on_105
def on_103 : List Cond := oc_103 ++ on_104
def on_102 : List Cond := oc_102 ++ on_103
def on_101 : List Cond := oc_101 ++ on_102
def on_100 : List Cond := oc_100 ++ on_101
def on_99 : List Cond := oc_99 ++ on_100
def on_98 : List Cond := oc_98 ++ on_99
def on_97 : List Cond := oc_97 ++ on_98
def on_96 : List Cond := oc_96 ++ on_97
def on_95 : List Cond := oc_95 ++ on_96
def on_94 : List Cond := oc_94 ++ on_95
def on_93 : List Cond := oc_93 ++ on_94
def on_92 : List Cond := oc_92 ++ on_93
def on_91 : List Cond := oc_91 ++ on_92
def on_90 : List Cond := oc_90 ++ on_91
def on_89 : List Cond := oc_89 ++ on_90
def on_88 : List Cond := oc_88 ++ on_89
def on_87 : List Cond := oc_87 ++ on_88
def on_86 : List Cond := oc_86 ++ on_87
def on_85 : List Cond := oc_85 ++ on_86
def on_84 : List Cond := oc_84 ++ on_85
def on_83 : List Cond := oc_83 ++ on_84
def on_82 : List Cond := oc_82 ++ on_83
def on_81 : List Cond := oc_81 ++ on_82
def on_80 : List Cond := oc_80 ++ on_81
def on_79 : List Cond := oc_79 ++ on_80
def on_78 : List Cond := oc_78 ++ on_79
def on_77 : List Cond := oc_77 ++ on_78
def on_76 : List Cond := oc_76 ++ on_77
def on_75 : List Cond := oc_75 ++ on_76
def on_74 : List Cond := oc_74 ++ on_75
def on_73 : List Cond := oc_73 ++ on_74
def on_72 : List Cond := oc_72 ++ on_73
def on_71 : List Cond := oc_71 ++ on_72
def on_70 : List Cond := oc_70 ++ on_71
def on_69 : List Cond := oc_69 ++ on_70
def on_68 : List Cond := oc_68 ++ on_69
def on_67 : List Cond := oc_67 ++ on_68
def on_66 : List Cond := oc_66 ++ on_67
def on_65 : List Cond := oc_65 ++ on_66
def on_64 : List Cond := oc_64 ++ on_65
def on_63 : List Cond := oc_63 ++ on_64
def on_62 : List Cond := oc_62 ++ on_63
def on_61 : List Cond := oc_61 ++ on_62
def on_60 : List Cond := oc_60 ++ on_61
def on_59 : List Cond := oc_59 ++ on_60
def on_58 : List Cond := oc_58 ++ on_59
def on_57 : List Cond := oc_57 ++ on_58
def on_56 : List Cond := oc_56 ++ on_57
def on_55 : List Cond := oc_55 ++ on_56
def on_54 : List Cond := oc_54 ++ on_55
def on_53 : List Cond := oc_53 ++ on_54
def on_52 : List Cond := oc_52 ++ on_53
def on_51 : List Cond := oc_51 ++ on_52
def on_50 : List Cond := oc_50 ++ on_51
def on_49 : List Cond := oc_49 ++ on_50
def on_48 : List Cond := oc_48 ++ on_49
def on_47 : List Cond := oc_47 ++ on_48
def on_46 : List Cond := oc_46 ++ on_47
def on_45 : List Cond := oc_45 ++ on_46
def on_44 : List Cond := oc_44 ++ on_45
def on_43 : List Cond := oc_43 ++ on_44
def on_42 : List Cond := oc_42 ++ on_43
def on_41 : List Cond := oc_41 ++ on_42
def on_40 : List Cond := oc_40 ++ on_41
def on_39 : List Cond := oc_39 ++ on_40
def on_38 : List Cond := oc_38 ++ on_39
def on_37 : List Cond := oc_37 ++ on_38
def on_36 : List Cond := oc_36 ++ on_37
def on_35 : List Cond := oc_35 ++ on_36
def on_34 : List Cond := oc_34 ++ on_35
def on_33 : List Cond := oc_33 ++ on_34
def on_32 : List Cond := oc_32 ++ on_33
def on_31 : List Cond := oc_31 ++ on_32
def on_30 : List Cond := oc_30 ++ on_31
def on_29 : List Cond := oc_29 ++ on_30
def on_28 : List Cond := oc_28 ++ on_29
def on_27 : List Cond := oc_27 ++ on_28
def on_26 : List Cond := oc_26 ++ on_27
def on_25 : List Cond := oc_25 ++ on_26
def on_24 : List Cond := oc_24 ++ on_25
def on_23 : List Cond := oc_23 ++ on_24
def on_22 : List Cond := oc_22 ++ on_23
def on_21 : List Cond := oc_21 ++ on_22
def on_20 : List Cond := oc_20 ++ on_21
def on_19 : List Cond := oc_19 ++ on_20
def on_18 : List Cond := oc_18 ++ on_19
def on_17 : List Cond := oc_17 ++ on_18
def on_16 : List Cond := oc_16 ++ on_17
def on_15 : List Cond := oc_15 ++ on_16
def on_14 : List Cond := oc_14 ++ on_15
def on_13 : List Cond := oc_13 ++ on_14
def on_12 : List Cond := oc_12 ++ on_13
def on_11 : List Cond := oc_11 ++ on_12
def on_10 : List Cond := oc_10 ++ on_11
def on_9 : List Cond := oc_9 ++ on_10
def on_8 : List Cond := oc_8 ++ on_9
def on_7 : List Cond := oc_7 ++ on_8
def on_6 : List Cond := oc_6 ++ on_7
def on_5 : List Cond := oc_5 ++ on_6
def on_4 : List Cond := oc_4 ++ on_5
def on_3 : List Cond := oc_3 ++ on_4
def on_2 : List Cond := oc_2 ++ on_3
def on_1 : List Cond := oc_1 ++ on_2
def on_0 : List Cond := oc_0 ++ on_1
def Om : List Cond := on_0
theorem os_0 : ∀ w ∈ on_0, w ∈ Om := fun _ h => h
theorem os_1 : ∀ w ∈ on_1, w ∈ Om := fun w h => os_0 w (List.mem_append_right _ h)
theorem os_2 : ∀ w ∈ on_2, w ∈ Om := fun w h => os_1 w (List.mem_append_right _ h)
theorem os_3 : ∀ w ∈ on_3, w ∈ Om := fun w h => os_2 w (List.mem_append_right _ h)
theorem os_4 : ∀ w ∈ on_4, w ∈ Om := fun w h => os_3 w (List.mem_append_right _ h)
theorem os_5 : ∀ w ∈ on_5, w ∈ Om := fun w h => os_4 w (List.mem_append_right _ h)
theorem os_6 : ∀ w ∈ on_6, w ∈ Om := fun w h => os_5 w (List.mem_append_right _ h)
theorem os_7 : ∀ w ∈ on_7, w ∈ Om := fun w h => os_6 w (List.mem_append_right _ h)
theorem os_8 : ∀ w ∈ on_8, w ∈ Om := fun w h => os_7 w (List.mem_append_right _ h)
theorem os_9 : ∀ w ∈ on_9, w ∈ Om := fun w h => os_8 w (List.mem_append_right _ h)
theorem os_10 : ∀ w ∈ on_10, w ∈ Om := fun w h => os_9 w (List.mem_append_right _ h)
theorem os_11 : ∀ w ∈ on_11, w ∈ Om := fun w h => os_10 w (List.mem_append_right _ h)
theorem os_12 : ∀ w ∈ on_12, w ∈ Om := fun w h => os_11 w (List.mem_append_right _ h)
theorem os_13 : ∀ w ∈ on_13, w ∈ Om := fun w h => os_12 w (List.mem_append_right _ h)
theorem os_14 : ∀ w ∈ on_14, w ∈ Om := fun w h => os_13 w (List.mem_append_right _ h)
theorem os_15 : ∀ w ∈ on_15, w ∈ Om := fun w h => os_14 w (List.mem_append_right _ h)
theorem os_16 : ∀ w ∈ on_16, w ∈ Om := fun w h => os_15 w (List.mem_append_right _ h)
theorem os_17 : ∀ w ∈ on_17, w ∈ Om := fun w h => os_16 w (List.mem_append_right _ h)
theorem os_18 : ∀ w ∈ on_18, w ∈ Om := fun w h => os_17 w (List.mem_append_right _ h)
theorem os_19 : ∀ w ∈ on_19, w ∈ Om := fun w h => os_18 w (List.mem_append_right _ h)
theorem os_20 : ∀ w ∈ on_20, w ∈ Om := fun w h => os_19 w (List.mem_append_right _ h)
theorem os_21 : ∀ w ∈ on_21, w ∈ Om := fun w h => os_20 w (List.mem_append_right _ h)
theorem os_22 : ∀ w ∈ on_22, w ∈ Om := fun w h => os_21 w (List.mem_append_right _ h)
theorem os_23 : ∀ w ∈ on_23, w ∈ Om := fun w h => os_22 w (List.mem_append_right _ h)
theorem os_24 : ∀ w ∈ on_24, w ∈ Om := fun w h => os_23 w (List.mem_append_right _ h)
theorem os_25 : ∀ w ∈ on_25, w ∈ Om := fun w h => os_24 w (List.mem_append_right _ h)
theorem os_26 : ∀ w ∈ on_26, w ∈ Om := fun w h => os_25 w (List.mem_append_right _ h)
theorem os_27 : ∀ w ∈ on_27, w ∈ Om := fun w h => os_26 w (List.mem_append_right _ h)
theorem os_28 : ∀ w ∈ on_28, w ∈ Om := fun w h => os_27 w (List.mem_append_right _ h)
theorem os_29 : ∀ w ∈ on_29, w ∈ Om := fun w h => os_28 w (List.mem_append_right _ h)
theorem os_30 : ∀ w ∈ on_30, w ∈ Om := fun w h => os_29 w (List.mem_append_right _ h)
theorem os_31 : ∀ w ∈ on_31, w ∈ Om := fun w h => os_30 w (List.mem_append_right _ h)
theorem os_32 : ∀ w ∈ on_32, w ∈ Om := fun w h => os_31 w (List.mem_append_right _ h)
theorem os_33 : ∀ w ∈ on_33, w ∈ Om := fun w h => os_32 w (List.mem_append_right _ h)
theorem os_34 : ∀ w ∈ on_34, w ∈ Om := fun w h => os_33 w (List.mem_append_right _ h)
theorem os_35 : ∀ w ∈ on_35, w ∈ Om := fun w h => os_34 w (List.mem_append_right _ h)
theorem os_36 : ∀ w ∈ on_36, w ∈ Om := fun w h => os_35 w (List.mem_append_right _ h)
theorem os_37 : ∀ w ∈ on_37, w ∈ Om := fun w h => os_36 w (List.mem_append_right _ h)
theorem os_38 : ∀ w ∈ on_38, w ∈ Om := fun w h => os_37 w (List.mem_append_right _ h)
theorem os_39 : ∀ w ∈ on_39, w ∈ Om := fun w h => os_38 w (List.mem_append_right _ h)
theorem os_40 : ∀ w ∈ on_40, w ∈ Om := fun w h => os_39 w (List.mem_append_right _ h)
theorem os_41 : ∀ w ∈ on_41, w ∈ Om := fun w h => os_40 w (List.mem_append_right _ h)
theorem os_42 : ∀ w ∈ on_42, w ∈ Om := fun w h => os_41 w (List.mem_append_right _ h)
theorem os_43 : ∀ w ∈ on_43, w ∈ Om := fun w h => os_42 w (List.mem_append_right _ h)
theorem os_44 : ∀ w ∈ on_44, w ∈ Om := fun w h => os_43 w (List.mem_append_right _ h)
theorem os_45 : ∀ w ∈ on_45, w ∈ Om := fun w h => os_44 w (List.mem_append_right _ h)
theorem os_46 : ∀ w ∈ on_46, w ∈ Om := fun w h => os_45 w (List.mem_append_right _ h)
theorem os_47 : ∀ w ∈ on_47, w ∈ Om := fun w h => os_46 w (List.mem_append_right _ h)
theorem os_48 : ∀ w ∈ on_48, w ∈ Om := fun w h => os_47 w (List.mem_append_right _ h)
theorem os_49 : ∀ w ∈ on_49, w ∈ Om := fun w h => os_48 w (List.mem_append_right _ h)
theorem os_50 : ∀ w ∈ on_50, w ∈ Om := fun w h => os_49 w (List.mem_append_right _ h)
theorem os_51 : ∀ w ∈ on_51, w ∈ Om := fun w h => os_50 w (List.mem_append_right _ h)
theorem os_52 : ∀ w ∈ on_52, w ∈ Om := fun w h => os_51 w (List.mem_append_right _ h)
theorem os_53 : ∀ w ∈ on_53, w ∈ Om := fun w h => os_52 w (List.mem_append_right _ h)
theorem os_54 : ∀ w ∈ on_54, w ∈ Om := fun w h => os_53 w (List.mem_append_right _ h)
theorem os_55 : ∀ w ∈ on_55, w ∈ Om := fun w h => os_54 w (List.mem_append_right _ h)
theorem os_56 : ∀ w ∈ on_56, w ∈ Om := fun w h => os_55 w (List.mem_append_right _ h)
theorem os_57 : ∀ w ∈ on_57, w ∈ Om := fun w h => os_56 w (List.mem_append_right _ h)
theorem os_58 : ∀ w ∈ on_58, w ∈ Om := fun w h => os_57 w (List.mem_append_right _ h)
theorem os_59 : ∀ w ∈ on_59, w ∈ Om := fun w h => os_58 w (List.mem_append_right _ h)
theorem os_60 : ∀ w ∈ on_60, w ∈ Om := fun w h => os_59 w (List.mem_append_right _ h)
theorem os_61 : ∀ w ∈ on_61, w ∈ Om := fun w h => os_60 w (List.mem_append_right _ h)
theorem os_62 : ∀ w ∈ on_62, w ∈ Om := fun w h => os_61 w (List.mem_append_right _ h)
theorem os_63 : ∀ w ∈ on_63, w ∈ Om := fun w h => os_62 w (List.mem_append_right _ h)
theorem os_64 : ∀ w ∈ on_64, w ∈ Om := fun w h => os_63 w (List.mem_append_right _ h)
theorem os_65 : ∀ w ∈ on_65, w ∈ Om := fun w h => os_64 w (List.mem_append_right _ h)
theorem os_66 : ∀ w ∈ on_66, w ∈ Om := fun w h => os_65 w (List.mem_append_right _ h)
theorem os_67 : ∀ w ∈ on_67, w ∈ Om := fun w h => os_66 w (List.mem_append_right _ h)
theorem os_68 : ∀ w ∈ on_68, w ∈ Om := fun w h => os_67 w (List.mem_append_right _ h)
theorem os_69 : ∀ w ∈ on_69, w ∈ Om := fun w h => os_68 w (List.mem_append_right _ h)
theorem os_70 : ∀ w ∈ on_70, w ∈ Om := fun w h => os_69 w (List.mem_append_right _ h)
theorem os_71 : ∀ w ∈ on_71, w ∈ Om := fun w h => os_70 w (List.mem_append_right _ h)
theorem os_72 : ∀ w ∈ on_72, w ∈ Om := fun w h => os_71 w (List.mem_append_right _ h)
theorem os_73 : ∀ w ∈ on_73, w ∈ Om := fun w h => os_72 w (List.mem_append_right _ h)
theorem os_74 : ∀ w ∈ on_74, w ∈ Om := fun w h => os_73 w (List.mem_append_right _ h)
theorem os_75 : ∀ w ∈ on_75, w ∈ Om := fun w h => os_74 w (List.mem_append_right _ h)
theorem os_76 : ∀ w ∈ on_76, w ∈ Om := fun w h => os_75 w (List.mem_append_right _ h)
theorem os_77 : ∀ w ∈ on_77, w ∈ Om := fun w h => os_76 w (List.mem_append_right _ h)
theorem os_78 : ∀ w ∈ on_78, w ∈ Om := fun w h => os_77 w (List.mem_append_right _ h)
theorem os_79 : ∀ w ∈ on_79, w ∈ Om := fun w h => os_78 w (List.mem_append_right _ h)
theorem os_80 : ∀ w ∈ on_80, w ∈ Om := fun w h => os_79 w (List.mem_append_right _ h)
theorem os_81 : ∀ w ∈ on_81, w ∈ Om := fun w h => os_80 w (List.mem_append_right _ h)
theorem os_82 : ∀ w ∈ on_82, w ∈ Om := fun w h => os_81 w (List.mem_append_right _ h)
theorem os_83 : ∀ w ∈ on_83, w ∈ Om := fun w h => os_82 w (List.mem_append_right _ h)
theorem os_84 : ∀ w ∈ on_84, w ∈ Om := fun w h => os_83 w (List.mem_append_right _ h)
theorem os_85 : ∀ w ∈ on_85, w ∈ Om := fun w h => os_84 w (List.mem_append_right _ h)
theorem os_86 : ∀ w ∈ on_86, w ∈ Om := fun w h => os_85 w (List.mem_append_right _ h)
theorem os_87 : ∀ w ∈ on_87, w ∈ Om := fun w h => os_86 w (List.mem_append_right _ h)
theorem os_88 : ∀ w ∈ on_88, w ∈ Om := fun w h => os_87 w (List.mem_append_right _ h)
theorem os_89 : ∀ w ∈ on_89, w ∈ Om := fun w h => os_88 w (List.mem_append_right _ h)
theorem os_90 : ∀ w ∈ on_90, w ∈ Om := fun w h => os_89 w (List.mem_append_right _ h)
theorem os_91 : ∀ w ∈ on_91, w ∈ Om := fun w h => os_90 w (List.mem_append_right _ h)
theorem os_92 : ∀ w ∈ on_92, w ∈ Om := fun w h => os_91 w (List.mem_append_right _ h)
theorem os_93 : ∀ w ∈ on_93, w ∈ Om := fun w h => os_92 w (List.mem_append_right _ h)
theorem os_94 : ∀ w ∈ on_94, w ∈ Om := fun w h => os_93 w (List.mem_append_right _ h)
theorem os_95 : ∀ w ∈ on_95, w ∈ Om := fun w h => os_94 w (List.mem_append_right _ h)
theorem os_96 : ∀ w ∈ on_96, w ∈ Om := fun w h => os_95 w (List.mem_append_right _ h)
theorem os_97 : ∀ w ∈ on_97, w ∈ Om := fun w h => os_96 w (List.mem_append_right _ h)
theorem os_98 : ∀ w ∈ on_98, w ∈ Om := fun w h => os_97 w (List.mem_append_right _ h)
theorem os_99 : ∀ w ∈ on_99, w ∈ Om := fun w h => os_98 w (List.mem_append_right _ h)
theorem os_100 : ∀ w ∈ on_100, w ∈ Om := fun w h => os_99 w (List.mem_append_right _ h)
theorem os_101 : ∀ w ∈ on_101, w ∈ Om := fun w h => os_100 w (List.mem_append_right _ h)
theorem os_102 : ∀ w ∈ on_102, w ∈ Om := fun w h => os_101 w (List.mem_append_right _ h)
theorem os_103 : ∀ w ∈ on_103, w ∈ Om := fun w h => os_102 w (List.mem_append_right _ h)
theorem os_104 : ∀ w ∈ on_104, w ∈ Om := fun w h => os_103 w (List.mem_append_right _ h)
theorem os_105 : ∀ w ∈ on_105, w ∈ Om := fun w h => os_104 w (List.mem_append_right _ h)
theorem os_106 : ∀ w ∈ on_106, w ∈ Om := fun w h => os_105 w (List.mem_append_right _ h)
theorem os_107 : ∀ w ∈ on_107, w ∈ Om := fun w h => os_106 w (List.mem_append_right _ h)
theorem os_108 : ∀ w ∈ on_108, w ∈ Om := fun w h => os_107 w (List.mem_append_right _ h)
theorem os_109 : ∀ w ∈ on_109, w ∈ Om := fun w h => os_108 w (List.mem_append_right _ h)
theorem os_110 : ∀ w ∈ on_110, w ∈ Om := fun w h => os_109 w (List.mem_append_right _ h)
theorem os_111 : ∀ w ∈ on_111, w ∈ Om := fun w h => os_110 w (List.mem_append_right _ h)
theorem os_112 : ∀ w ∈ on_112, w ∈ Om := fun w h => os_111 w (List.mem_append_right _ h)
theorem os_113 : ∀ w ∈ on_113, w ∈ Om := fun w h => os_112 w (List.mem_append_right _ h)
theorem os_114 : ∀ w ∈ on_114, w ∈ Om := fun w h => os_113 w (List.mem_append_right _ h)
theorem os_115 : ∀ w ∈ on_115, w ∈ Om := fun w h => os_114 w (List.mem_append_right _ h)
theorem os_116 : ∀ w ∈ on_116, w ∈ Om := fun w h => os_115 w (List.mem_append_right _ h)
theorem os_117 : ∀ w ∈ on_117, w ∈ Om := fun w h => os_116 w (List.mem_append_right _ h)
theorem os_118 : ∀ w ∈ on_118, w ∈ Om := fun w h => os_117 w (List.mem_append_right _ h)
theorem os_119 : ∀ w ∈ on_119, w ∈ Om := fun w h => os_118 w (List.mem_append_right _ h)
theorem os_120 : ∀ w ∈ on_120, w ∈ Om := fun w h => os_119 w (List.mem_append_right _ h)
theorem os_121 : ∀ w ∈ on_121, w ∈ Om := fun w h => os_120 w (List.mem_append_right _ h)
theorem os_122 : ∀ w ∈ on_122, w ∈ Om := fun w h => os_121 w (List.mem_append_right _ h)
theorem os_123 : ∀ w ∈ on_123, w ∈ Om := fun w h => os_122 w (List.mem_append_right _ h)
theorem os_124 : ∀ w ∈ on_124, w ∈ Om := fun w h => os_123 w (List.mem_append_right _ h)
theorem os_125 : ∀ w ∈ on_125, w ∈ Om := fun w h => os_124 w (List.mem_append_right _ h)
theorem os_126 : ∀ w ∈ on_126, w ∈ Om := fun w h => os_125 w (List.mem_append_right _ h)
theorem os_127 : ∀ w ∈ on_127, w ∈ Om := fun w h => os_126 w (List.mem_append_right _ h)
theorem os_128 : ∀ w ∈ on_128, w ∈ Om := fun w h => os_127 w (List.mem_append_right _ h)
theorem os_129 : ∀ w ∈ on_129, w ∈ Om := fun w h => os_128 w (List.mem_append_right _ h)
theorem os_130 : ∀ w ∈ on_130, w ∈ Om := fun w h => os_129 w (List.mem_append_right _ h)
theorem os_131 : ∀ w ∈ on_131, w ∈ Om := fun w h => os_130 w (List.mem_append_right _ h)
theorem ot_0 : ∀ w ∈ oc_0, w ∈ Om := fun w h => os_0 w (List.mem_append_left _ h)
theorem ogd_0 : (oc_0).all goodWord = true := by decide +kernel
theorem ot_1 : ∀ w ∈ oc_1, w ∈ Om := fun w h => os_1 w (List.mem_append_left _ h)
theorem ogd_1 : (oc_1).all goodWord = true := by decide +kernel
theorem ot_2 : ∀ w ∈ oc_2, w ∈ Om := fun w h => os_2 w (List.mem_append_left _ h)
theorem ogd_2 : (oc_2).all goodWord = true := by decide +kernel
theorem ot_3 : ∀ w ∈ oc_3, w ∈ Om := fun w h => os_3 w (List.mem_append_left _ h)
theorem ogd_3 : (oc_3).all goodWord = true := by decide +kernel
theorem ot_4 : ∀ w ∈ oc_4, w ∈ Om := fun w h => os_4 w (List.mem_append_left _ h)
theorem ogd_4 : (oc_4).all goodWord = true := by decide +kernel
theorem ot_5 : ∀ w ∈ oc_5, w ∈ Om := fun w h => os_5 w (List.mem_append_left _ h)
theorem ogd_5 : (oc_5).all goodWord = true := by decide +kernel
theorem ot_6 : ∀ w ∈ oc_6, w ∈ Om := fun w h => os_6 w (List.mem_append_left _ h)
theorem ogd_6 : (oc_6).all goodWord = true := by decide +kernel
theorem ot_7 : ∀ w ∈ oc_7, w ∈ Om := fun w h => os_7 w (List.mem_append_left _ h)
theorem ogd_7 : (oc_7).all goodWord = true := by decide +kernel
theorem ot_8 : ∀ w ∈ oc_8, w ∈ Om := fun w h => os_8 w (List.mem_append_left _ h)
theorem ogd_8 : (oc_8).all goodWord = true := by decide +kernel
theorem ot_9 : ∀ w ∈ oc_9, w ∈ Om := fun w h => os_9 w (List.mem_append_left _ h)
theorem ogd_9 : (oc_9).all goodWord = true := by decide +kernel
theorem ot_10 : ∀ w ∈ oc_10, w ∈ Om := fun w h => os_10 w (List.mem_append_left _ h)
theorem ogd_10 : (oc_10).all goodWord = true := by decide +kernel
theorem ot_11 : ∀ w ∈ oc_11, w ∈ Om := fun w h => os_11 w (List.mem_append_left _ h)
theorem ogd_11 : (oc_11).all goodWord = true := by decide +kernel
theorem ot_12 : ∀ w ∈ oc_12, w ∈ Om := fun w h => os_12 w (List.mem_append_left _ h)
theorem ogd_12 : (oc_12).all goodWord = true := by decide +kernel
theorem ot_13 : ∀ w ∈ oc_13, w ∈ Om := fun w h => os_13 w (List.mem_append_left _ h)
theorem ogd_13 : (oc_13).all goodWord = true := by decide +kernel
theorem ot_14 : ∀ w ∈ oc_14, w ∈ Om := fun w h => os_14 w (List.mem_append_left _ h)
theorem ogd_14 : (oc_14).all goodWord = true := by decide +kernel
theorem ot_15 : ∀ w ∈ oc_15, w ∈ Om := fun w h => os_15 w (List.mem_append_left _ h)
theorem ogd_15 : (oc_15).all goodWord = true := by decide +kernel
theorem ot_16 : ∀ w ∈ oc_16, w ∈ Om := fun w h => os_16 w (List.mem_append_left _ h)
theorem ogd_16 : (oc_16).all goodWord = true := by decide +kernel
theorem ot_17 : ∀ w ∈ oc_17, w ∈ Om := fun w h => os_17 w (List.mem_append_left _ h)
theorem ogd_17 : (oc_17).all goodWord = true := by decide +kernel
theorem ot_18 : ∀ w ∈ oc_18, w ∈ Om := fun w h => os_18 w (List.mem_append_left _ h)
theorem ogd_18 : (oc_18).all goodWord = true := by decide +kernel
theorem ot_19 : ∀ w ∈ oc_19, w ∈ Om := fun w h => os_19 w (List.mem_append_left _ h)
theorem ogd_19 : (oc_19).all goodWord = true := by decide +kernel
theorem ot_20 : ∀ w ∈ oc_20, w ∈ Om := fun w h => os_20 w (List.mem_append_left _ h)
theorem ogd_20 : (oc_20).all goodWord = true := by decide +kernel
theorem ot_21 : ∀ w ∈ oc_21, w ∈ Om := fun w h => os_21 w (List.mem_append_left _ h)
theorem ogd_21 : (oc_21).all goodWord = true := by decide +kernel
theorem ot_22 : ∀ w ∈ oc_22, w ∈ Om := fun w h => os_22 w (List.mem_append_left _ h)
theorem ogd_22 : (oc_22).all goodWord = true := by decide +kernel
theorem ot_23 : ∀ w ∈ oc_23, w ∈ Om := fun w h => os_23 w (List.mem_append_left _ h)
theorem ogd_23 : (oc_23).all goodWord = true := by decide +kernel
theorem ot_24 : ∀ w ∈ oc_24, w ∈ Om := fun w h => os_24 w (List.mem_append_left _ h)
theorem ogd_24 : (oc_24).all goodWord = true := by decide +kernel
theorem ot_25 : ∀ w ∈ oc_25, w ∈ Om := fun w h => os_25 w (List.mem_append_left _ h)
theorem ogd_25 : (oc_25).all goodWord = true := by decide +kernel
theorem ot_26 : ∀ w ∈ oc_26, w ∈ Om := fun w h => os_26 w (List.mem_append_left _ h)
theorem ogd_26 : (oc_26).all goodWord = true := by decide +kernel
theorem ot_27 : ∀ w ∈ oc_27, w ∈ Om := fun w h => os_27 w (List.mem_append_left _ h)
theorem ogd_27 : (oc_27).all goodWord = true := by decide +kernel
theorem ot_28 : ∀ w ∈ oc_28, w ∈ Om := fun w h => os_28 w (List.mem_append_left _ h)
theorem ogd_28 : (oc_28).all goodWord = true := by decide +kernel
theorem ot_29 : ∀ w ∈ oc_29, w ∈ Om := fun w h => os_29 w (List.mem_append_left _ h)
theorem ogd_29 : (oc_29).all goodWord = true := by decide +kernel
theorem ot_30 : ∀ w ∈ oc_30, w ∈ Om := fun w h => os_30 w (List.mem_append_left _ h)
theorem ogd_30 : (oc_30).all goodWord = true := by decide +kernel
theorem ot_31 : ∀ w ∈ oc_31, w ∈ Om := fun w h => os_31 w (List.mem_append_left _ h)
theorem ogd_31 : (oc_31).all goodWord = true := by decide +kernel
theorem ot_32 : ∀ w ∈ oc_32, w ∈ Om := fun w h => os_32 w (List.mem_append_left _ h)
theorem ogd_32 : (oc_32).all goodWord = true := by decide +kernel
theorem ot_33 : ∀ w ∈ oc_33, w ∈ Om := fun w h => os_33 w (List.mem_append_left _ h)
theorem ogd_33 : (oc_33).all goodWord = true := by decide +kernel
theorem ot_34 : ∀ w ∈ oc_34, w ∈ Om := fun w h => os_34 w (List.mem_append_left _ h)
theorem ogd_34 : (oc_34).all goodWord = true := by decide +kernel
theorem ot_35 : ∀ w ∈ oc_35, w ∈ Om := fun w h => os_35 w (List.mem_append_left _ h)
theorem ogd_35 : (oc_35).all goodWord = true := by decide +kernel
theorem ot_36 : ∀ w ∈ oc_36, w ∈ Om := fun w h => os_36 w (List.mem_append_left _ h)
theorem ogd_36 : (oc_36).all goodWord = true := by decide +kernel
theorem ot_37 : ∀ w ∈ oc_37, w ∈ Om := fun w h => os_37 w (List.mem_append_left _ h)
theorem ogd_37 : (oc_37).all goodWord = true := by decide +kernel
theorem ot_38 : ∀ w ∈ oc_38, w ∈ Om := fun w h => os_38 w (List.mem_append_left _ h)
theorem ogd_38 : (oc_38).all goodWord = true := by decide +kernel
theorem ot_39 : ∀ w ∈ oc_39, w ∈ Om := fun w h => os_39 w (List.mem_append_left _ h)
theorem ogd_39 : (oc_39).all goodWord = true := by decide +kernel
theorem ot_40 : ∀ w ∈ oc_40, w ∈ Om := fun w h => os_40 w (List.mem_append_left _ h)
theorem ogd_40 : (oc_40).all goodWord = true := by decide +kernel
theorem ot_41 : ∀ w ∈ oc_41, w ∈ Om := fun w h => os_41 w (List.mem_append_left _ h)
theorem ogd_41 : (oc_41).all goodWord = true := by decide +kernel
theorem ot_42 : ∀ w ∈ oc_42, w ∈ Om := fun w h => os_42 w (List.mem_append_left _ h)
theorem ogd_42 : (oc_42).all goodWord = true := by decide +kernel
theorem ot_43 : ∀ w ∈ oc_43, w ∈ Om := fun w h => os_43 w (List.mem_append_left _ h)
theorem ogd_43 : (oc_43).all goodWord = true := by decide +kernel
theorem ot_44 : ∀ w ∈ oc_44, w ∈ Om := fun w h => os_44 w (List.mem_append_left _ h)
theorem ogd_44 : (oc_44).all goodWord = true := by decide +kernel
theorem ot_45 : ∀ w ∈ oc_45, w ∈ Om := fun w h => os_45 w (List.mem_append_left _ h)
theorem ogd_45 : (oc_45).all goodWord = true := by decide +kernel
theorem ot_46 : ∀ w ∈ oc_46, w ∈ Om := fun w h => os_46 w (List.mem_append_left _ h)
theorem ogd_46 : (oc_46).all goodWord = true := by decide +kernel
theorem ot_47 : ∀ w ∈ oc_47, w ∈ Om := fun w h => os_47 w (List.mem_append_left _ h)
theorem ogd_47 : (oc_47).all goodWord = true := by decide +kernel
theorem ot_48 : ∀ w ∈ oc_48, w ∈ Om := fun w h => os_48 w (List.mem_append_left _ h)
theorem ogd_48 : (oc_48).all goodWord = true := by decide +kernel
theorem ot_49 : ∀ w ∈ oc_49, w ∈ Om := fun w h => os_49 w (List.mem_append_left _ h)
theorem ogd_49 : (oc_49).all goodWord = true := by decide +kernel
theorem ot_50 : ∀ w ∈ oc_50, w ∈ Om := fun w h => os_50 w (List.mem_append_left _ h)
theorem ogd_50 : (oc_50).all goodWord = true := by decide +kernel
theorem ot_51 : ∀ w ∈ oc_51, w ∈ Om := fun w h => os_51 w (List.mem_append_left _ h)
theorem ogd_51 : (oc_51).all goodWord = true := by decide +kernel
theorem ot_52 : ∀ w ∈ oc_52, w ∈ Om := fun w h => os_52 w (List.mem_append_left _ h)
theorem ogd_52 : (oc_52).all goodWord = true := by decide +kernel
theorem ot_53 : ∀ w ∈ oc_53, w ∈ Om := fun w h => os_53 w (List.mem_append_left _ h)
theorem ogd_53 : (oc_53).all goodWord = true := by decide +kernel
theorem ot_54 : ∀ w ∈ oc_54, w ∈ Om := fun w h => os_54 w (List.mem_append_left _ h)
theorem ogd_54 : (oc_54).all goodWord = true := by decide +kernel
theorem ot_55 : ∀ w ∈ oc_55, w ∈ Om := fun w h => os_55 w (List.mem_append_left _ h)
theorem ogd_55 : (oc_55).all goodWord = true := by decide +kernel
theorem ot_56 : ∀ w ∈ oc_56, w ∈ Om := fun w h => os_56 w (List.mem_append_left _ h)
theorem ogd_56 : (oc_56).all goodWord = true := by decide +kernel
theorem ot_57 : ∀ w ∈ oc_57, w ∈ Om := fun w h => os_57 w (List.mem_append_left _ h)
theorem ogd_57 : (oc_57).all goodWord = true := by decide +kernel
theorem ot_58 : ∀ w ∈ oc_58, w ∈ Om := fun w h => os_58 w (List.mem_append_left _ h)
theorem ogd_58 : (oc_58).all goodWord = true := by decide +kernel
theorem ot_59 : ∀ w ∈ oc_59, w ∈ Om := fun w h => os_59 w (List.mem_append_left _ h)
theorem ogd_59 : (oc_59).all goodWord = true := by decide +kernel
theorem ot_60 : ∀ w ∈ oc_60, w ∈ Om := fun w h => os_60 w (List.mem_append_left _ h)
theorem ogd_60 : (oc_60).all goodWord = true := by decide +kernel
theorem ot_61 : ∀ w ∈ oc_61, w ∈ Om := fun w h => os_61 w (List.mem_append_left _ h)
theorem ogd_61 : (oc_61).all goodWord = true := by decide +kernel
theorem ot_62 : ∀ w ∈ oc_62, w ∈ Om := fun w h => os_62 w (List.mem_append_left _ h)
theorem ogd_62 : (oc_62).all goodWord = true := by decide +kernel
theorem ot_63 : ∀ w ∈ oc_63, w ∈ Om := fun w h => os_63 w (List.mem_append_left _ h)
theorem ogd_63 : (oc_63).all goodWord = true := by decide +kernel
theorem ot_64 : ∀ w ∈ oc_64, w ∈ Om := fun w h => os_64 w (List.mem_append_left _ h)
theorem ogd_64 : (oc_64).all goodWord = true := by decide +kernel
theorem ot_65 : ∀ w ∈ oc_65, w ∈ Om := fun w h => os_65 w (List.mem_append_left _ h)
theorem ogd_65 : (oc_65).all goodWord = true := by decide +kernel
theorem ot_66 : ∀ w ∈ oc_66, w ∈ Om := fun w h => os_66 w (List.mem_append_left _ h)
theorem ogd_66 : (oc_66).all goodWord = true := by decide +kernel
theorem ot_67 : ∀ w ∈ oc_67, w ∈ Om := fun w h => os_67 w (List.mem_append_left _ h)
theorem ogd_67 : (oc_67).all goodWord = true := by decide +kernel
theorem ot_68 : ∀ w ∈ oc_68, w ∈ Om := fun w h => os_68 w (List.mem_append_left _ h)
theorem ogd_68 : (oc_68).all goodWord = true := by decide +kernel
theorem ot_69 : ∀ w ∈ oc_69, w ∈ Om := fun w h => os_69 w (List.mem_append_left _ h)
theorem ogd_69 : (oc_69).all goodWord = true := by decide +kernel
theorem ot_70 : ∀ w ∈ oc_70, w ∈ Om := fun w h => os_70 w (List.mem_append_left _ h)
theorem ogd_70 : (oc_70).all goodWord = true := by decide +kernel
theorem ot_71 : ∀ w ∈ oc_71, w ∈ Om := fun w h => os_71 w (List.mem_append_left _ h)
theorem ogd_71 : (oc_71).all goodWord = true := by decide +kernel
theorem ot_72 : ∀ w ∈ oc_72, w ∈ Om := fun w h => os_72 w (List.mem_append_left _ h)
theorem ogd_72 : (oc_72).all goodWord = true := by decide +kernel
theorem ot_73 : ∀ w ∈ oc_73, w ∈ Om := fun w h => os_73 w (List.mem_append_left _ h)
theorem ogd_73 : (oc_73).all goodWord = true := by decide +kernel
theorem ot_74 : ∀ w ∈ oc_74, w ∈ Om := fun w h => os_74 w (List.mem_append_left _ h)
theorem ogd_74 : (oc_74).all goodWord = true := by decide +kernel
theorem ot_75 : ∀ w ∈ oc_75, w ∈ Om := fun w h => os_75 w (List.mem_append_left _ h)
theorem ogd_75 : (oc_75).all goodWord = true := by decide +kernel
theorem ot_76 : ∀ w ∈ oc_76, w ∈ Om := fun w h => os_76 w (List.mem_append_left _ h)
theorem ogd_76 : (oc_76).all goodWord = true := by decide +kernel
theorem ot_77 : ∀ w ∈ oc_77, w ∈ Om := fun w h => os_77 w (List.mem_append_left _ h)
theorem ogd_77 : (oc_77).all goodWord = true := by decide +kernel
theorem ot_78 : ∀ w ∈ oc_78, w ∈ Om := fun w h => os_78 w (List.mem_append_left _ h)
theorem ogd_78 : (oc_78).all goodWord = true := by decide +kernel
theorem ot_79 : ∀ w ∈ oc_79, w ∈ Om := fun w h => os_79 w (List.mem_append_left _ h)
theorem ogd_79 : (oc_79).all goodWord = true := by decide +kernel
theorem ot_80 : ∀ w ∈ oc_80, w ∈ Om := fun w h => os_80 w (List.mem_append_left _ h)
theorem ogd_80 : (oc_80).all goodWord = true := by decide +kernel
theorem ot_81 : ∀ w ∈ oc_81, w ∈ Om := fun w h => os_81 w (List.mem_append_left _ h)
theorem ogd_81 : (oc_81).all goodWord = true := by decide +kernel
theorem ot_82 : ∀ w ∈ oc_82, w ∈ Om := fun w h => os_82 w (List.mem_append_left _ h)
theorem ogd_82 : (oc_82).all goodWord = true := by decide +kernel
theorem ot_83 : ∀ w ∈ oc_83, w ∈ Om := fun w h => os_83 w (List.mem_append_left _ h)
theorem ogd_83 : (oc_83).all goodWord = true := by decide +kernel
theorem ot_84 : ∀ w ∈ oc_84, w ∈ Om := fun w h => os_84 w (List.mem_append_left _ h)
theorem ogd_84 : (oc_84).all goodWord = true := by decide +kernel
theorem ot_85 : ∀ w ∈ oc_85, w ∈ Om := fun w h => os_85 w (List.mem_append_left _ h)
theorem ogd_85 : (oc_85).all goodWord = true := by decide +kernel
theorem ot_86 : ∀ w ∈ oc_86, w ∈ Om := fun w h => os_86 w (List.mem_append_left _ h)
theorem ogd_86 : (oc_86).all goodWord = true := by decide +kernel
theorem ot_87 : ∀ w ∈ oc_87, w ∈ Om := fun w h => os_87 w (List.mem_append_left _ h)
theorem ogd_87 : (oc_87).all goodWord = true := by decide +kernel
theorem ot_88 : ∀ w ∈ oc_88, w ∈ Om := fun w h => os_88 w (List.mem_append_left _ h)
theorem ogd_88 : (oc_88).all goodWord = true := by decide +kernel
theorem ot_89 : ∀ w ∈ oc_89, w ∈ Om := fun w h => os_89 w (List.mem_append_left _ h)
theorem ogd_89 : (oc_89).all goodWord = true := by decide +kernel
theorem ot_90 : ∀ w ∈ oc_90, w ∈ Om := fun w h => os_90 w (List.mem_append_left _ h)
theorem ogd_90 : (oc_90).all goodWord = true := by decide +kernel
theorem ot_91 : ∀ w ∈ oc_91, w ∈ Om := fun w h => os_91 w (List.mem_append_left _ h)
theorem ogd_91 : (oc_91).all goodWord = true := by decide +kernel
theorem ot_92 : ∀ w ∈ oc_92, w ∈ Om := fun w h => os_92 w (List.mem_append_left _ h)
theorem ogd_92 : (oc_92).all goodWord = true := by decide +kernel
theorem ot_93 : ∀ w ∈ oc_93, w ∈ Om := fun w h => os_93 w (List.mem_append_left _ h)
theorem ogd_93 : (oc_93).all goodWord = true := by decide +kernel
theorem ot_94 : ∀ w ∈ oc_94, w ∈ Om := fun w h => os_94 w (List.mem_append_left _ h)
theorem ogd_94 : (oc_94).all goodWord = true := by decide +kernel
theorem ot_95 : ∀ w ∈ oc_95, w ∈ Om := fun w h => os_95 w (List.mem_append_left _ h)
theorem ogd_95 : (oc_95).all goodWord = true := by decide +kernel
theorem ot_96 : ∀ w ∈ oc_96, w ∈ Om := fun w h => os_96 w (List.mem_append_left _ h)
theorem ogd_96 : (oc_96).all goodWord = true := by decide +kernel
theorem ot_97 : ∀ w ∈ oc_97, w ∈ Om := fun w h => os_97 w (List.mem_append_left _ h)
theorem ogd_97 : (oc_97).all goodWord = true := by decide +kernel
theorem ot_98 : ∀ w ∈ oc_98, w ∈ Om := fun w h => os_98 w (List.mem_append_left _ h)
theorem ogd_98 : (oc_98).all goodWord = true := by decide +kernel
theorem ot_99 : ∀ w ∈ oc_99, w ∈ Om := fun w h => os_99 w (List.mem_append_left _ h)
theorem ogd_99 : (oc_99).all goodWord = true := by decide +kernel
theorem ot_100 : ∀ w ∈ oc_100, w ∈ Om := fun w h => os_100 w (List.mem_append_left _ h)
theorem ogd_100 : (oc_100).all goodWord = true := by decide +kernel
theorem ot_101 : ∀ w ∈ oc_101, w ∈ Om := fun w h => os_101 w (List.mem_append_left _ h)
theorem ogd_101 : (oc_101).all goodWord = true := by decide +kernel
theorem ot_102 : ∀ w ∈ oc_102, w ∈ Om := fun w h => os_102 w (List.mem_append_left _ h)
theorem ogd_102 : (oc_102).all goodWord = true := by decide +kernel
theorem ot_103 : ∀ w ∈ oc_103, w ∈ Om := fun w h => os_103 w (List.mem_append_left _ h)
theorem ogd_103 : (oc_103).all goodWord = true := by decide +kernel
theorem ot_104 : ∀ w ∈ oc_104, w ∈ Om := fun w h => os_104 w (List.mem_append_left _ h)
theorem ogd_104 : (oc_104).all goodWord = true := by decide +kernel
theorem ot_105 : ∀ w ∈ oc_105, w ∈ Om := fun w h => os_105 w (List.mem_append_left _ h)
theorem ogd_105 : (oc_105).all goodWord = true := by decide +kernel
theorem ot_106 : ∀ w ∈ oc_106, w ∈ Om := fun w h => os_106 w (List.mem_append_left _ h)
theorem ogd_106 : (oc_106).all goodWord = true := by decide +kernel
theorem ot_107 : ∀ w ∈ oc_107, w ∈ Om := fun w h => os_107 w (List.mem_append_left _ h)
theorem ogd_107 : (oc_107).all goodWord = true := by decide +kernel
theorem ot_108 : ∀ w ∈ oc_108, w ∈ Om := fun w h => os_108 w (List.mem_append_left _ h)
theorem ogd_108 : (oc_108).all goodWord = true := by decide +kernel
theorem ot_109 : ∀ w ∈ oc_109, w ∈ Om := fun w h => os_109 w (List.mem_append_left _ h)
theorem ogd_109 : (oc_109).all goodWord = true := by decide +kernel
theorem ot_110 : ∀ w ∈ oc_110, w ∈ Om := fun w h => os_110 w (List.mem_append_left _ h)
theorem ogd_110 : (oc_110).all goodWord = true := by decide +kernel
theorem ot_111 : ∀ w ∈ oc_111, w ∈ Om := fun w h => os_111 w (List.mem_append_left _ h)
theorem ogd_111 : (oc_111).all goodWord = true := by decide +kernel
theorem ot_112 : ∀ w ∈ oc_112, w ∈ Om := fun w h => os_112 w (List.mem_append_left _ h)
theorem ogd_112 : (oc_112).all goodWord = true := by decide +kernel
theorem ot_113 : ∀ w ∈ oc_113, w ∈ Om := fun w h => os_113 w (List.mem_append_left _ h)
theorem ogd_113 : (oc_113).all goodWord = true := by decide +kernel
theorem ot_114 : ∀ w ∈ oc_114, w ∈ Om := fun w h => os_114 w (List.mem_append_left _ h)
theorem ogd_114 : (oc_114).all goodWord = true := by decide +kernel
theorem ot_115 : ∀ w ∈ wsX00, w ∈ Om := fun w h => os_115 w (List.mem_append_left _ h)
theorem ogd_115 : (wsX00).all goodWord = true := by decide +kernel
theorem ot_116 : ∀ w ∈ wsX10, w ∈ Om := fun w h => os_116 w (List.mem_append_left _ h)
theorem ogd_116 : (wsX10).all goodWord = true := by decide +kernel
theorem ot_117 : ∀ w ∈ wsX100, w ∈ Om := fun w h => os_117 w (List.mem_append_left _ h)
theorem ogd_117 : (wsX100).all goodWord = true := by decide +kernel
theorem ot_118 : ∀ w ∈ wsX110, w ∈ Om := fun w h => os_118 w (List.mem_append_left _ h)
theorem ogd_118 : (wsX110).all goodWord = true := by decide +kernel
theorem ot_119 : ∀ w ∈ wsX120, w ∈ Om := fun w h => os_119 w (List.mem_append_left _ h)
theorem ogd_119 : (wsX120).all goodWord = true := by decide +kernel
theorem ot_120 : ∀ w ∈ wsX20, w ∈ Om := fun w h => os_120 w (List.mem_append_left _ h)
theorem ogd_120 : (wsX20).all goodWord = true := by decide +kernel
theorem ot_121 : ∀ w ∈ wsX30, w ∈ Om := fun w h => os_121 w (List.mem_append_left _ h)
theorem ogd_121 : (wsX30).all goodWord = true := by decide +kernel
theorem ot_122 : ∀ w ∈ wsX40, w ∈ Om := fun w h => os_122 w (List.mem_append_left _ h)
theorem ogd_122 : (wsX40).all goodWord = true := by decide +kernel
theorem ot_123 : ∀ w ∈ wsX50, w ∈ Om := fun w h => os_123 w (List.mem_append_left _ h)
theorem ogd_123 : (wsX50).all goodWord = true := by decide +kernel
theorem ot_124 : ∀ w ∈ wsX60, w ∈ Om := fun w h => os_124 w (List.mem_append_left _ h)
theorem ogd_124 : (wsX60).all goodWord = true := by decide +kernel
theorem ot_125 : ∀ w ∈ wsX70, w ∈ Om := fun w h => os_125 w (List.mem_append_left _ h)
theorem ogd_125 : (wsX70).all goodWord = true := by decide +kernel
theorem ot_126 : ∀ w ∈ wsX80, w ∈ Om := fun w h => os_126 w (List.mem_append_left _ h)
theorem ogd_126 : (wsX80).all goodWord = true := by decide +kernel
theorem ot_127 : ∀ w ∈ wsX90, w ∈ Om := fun w h => os_127 w (List.mem_append_left _ h)
theorem ogd_127 : (wsX90).all goodWord = true := by decide +kernel
theorem ot_128 : ∀ w ∈ ((vx_at0 RX11 122 "java/lang/IndexOutOfBoundsException" ["java/lang/RuntimeException", "java/lang/Exception"]).filter goodWord), w ∈ Om := fun w h => os_128 w (List.mem_append_left _ h)
theorem ogd_128 : (((vx_at0 RX11 122 "java/lang/IndexOutOfBoundsException" ["java/lang/RuntimeException", "java/lang/Exception"]).filter goodWord)).all goodWord = true := by decide +kernel
theorem ot_129 : ∀ w ∈ ((vx_at0 RX11 129 "java/lang/IllegalArgumentException" ["java/lang/RuntimeException", "java/lang/Exception"]).filter goodWord), w ∈ Om := fun w h => os_129 w (List.mem_append_left _ h)
theorem ogd_129 : (((vx_at0 RX11 129 "java/lang/IllegalArgumentException" ["java/lang/RuntimeException", "java/lang/Exception"]).filter goodWord)).all goodWord = true := by decide +kernel
theorem ot_130 : ∀ w ∈ ((vx_at0 RX11 139 "java/lang/IllegalStateException" ["java/lang/RuntimeException", "java/lang/Exception"]).filter goodWord), w ∈ Om := fun w h => os_130 w (List.mem_append_left _ h)
theorem ogd_130 : (((vx_at0 RX11 139 "java/lang/IllegalStateException" ["java/lang/RuntimeException", "java/lang/Exception"]).filter goodWord)).all goodWord = true := by decide +kernel
theorem ot_131 : ∀ w ∈ ((vx_at0 RX11 224 "java/util/NoSuchElementException" ["java/lang/RuntimeException", "java/lang/Exception"]).filter goodWord), w ∈ Om := fun w h => os_131 w (List.mem_append_left _ h)
theorem ogd_131 : (((vx_at0 RX11 224 "java/util/NoSuchElementException" ["java/lang/RuntimeException", "java/lang/Exception"]).filter goodWord)).all goodWord = true := by decide +kernel
theorem Om_gw : ∀ w ∈ Om, goodWord w = true := by
  have e0 : ∀ w ∈ ([] : List Cond), goodWord w = true := fun _ h => by cases h
  have e1 : ∀ w ∈ on_131, goodWord w = true := fun w h => (List.mem_append.mp h).elim (fun h => List.all_eq_true.mp ogd_131 w h) (e0 w)
  have e2 : ∀ w ∈ on_130, goodWord w = true := fun w h => (List.mem_append.mp h).elim (fun h => List.all_eq_true.mp ogd_130 w h) (e1 w)
  have e3 : ∀ w ∈ on_129, goodWord w = true := fun w h => (List.mem_append.mp h).elim (fun h => List.all_eq_true.mp ogd_129 w h) (e2 w)
  have e4 : ∀ w ∈ on_128, goodWord w = true := fun w h => (List.mem_append.mp h).elim (fun h => List.all_eq_true.mp ogd_128 w h) (e3 w)
  have e5 : ∀ w ∈ on_127, goodWord w = true := fun w h => (List.mem_append.mp h).elim (fun h => List.all_eq_true.mp ogd_127 w h) (e4 w)
  have e6 : ∀ w ∈ on_126, goodWord w = true := fun w h => (List.mem_append.mp h).elim (fun h => List.all_eq_true.mp ogd_126 w h) (e5 w)
  have e7 : ∀ w ∈ on_125, goodWord w = true := fun w h => (List.mem_append.mp h).elim (fun h => List.all_eq_true.mp ogd_125 w h) (e6 w)
  have e8 : ∀ w ∈ on_124, goodWord w = true := fun w h => (List.mem_append.mp h).elim (fun h => List.all_eq_true.mp ogd_124 w h) (e7 w)
  have e9 : ∀ w ∈ on_123, goodWord w = true := fun w h => (List.mem_append.mp h).elim (fun h => List.all_eq_true.mp ogd_123 w h) (e8 w)
  have e10 : ∀ w ∈ on_122, goodWord w = true := fun w h => (List.mem_append.mp h).elim (fun h => List.all_eq_true.mp ogd_122 w h) (e9 w)
  have e11 : ∀ w ∈ on_121, goodWord w = true := fun w h => (List.mem_append.mp h).elim (fun h => List.all_eq_true.mp ogd_121 w h) (e10 w)
  have e12 : ∀ w ∈ on_120, goodWord w = true := fun w h => (List.mem_append.mp h).elim (fun h => List.all_eq_true.mp ogd_120 w h) (e11 w)
  have e13 : ∀ w ∈ on_119, goodWord w = true := fun w h => (List.mem_append.mp h).elim (fun h => List.all_eq_true.mp ogd_119 w h) (e12 w)
  have e14 : ∀ w ∈ on_118, goodWord w = true := fun w h => (List.mem_append.mp h).elim (fun h => List.all_eq_true.mp ogd_118 w h) (e13 w)
  have e15 : ∀ w ∈ on_117, goodWord w = true := fun w h => (List.mem_append.mp h).elim (fun h => List.all_eq_true.mp ogd_117 w h) (e14 w)
  have e16 : ∀ w ∈ on_116, goodWord w = true := fun w h => (List.mem_append.mp h).elim (fun h => List.all_eq_true.mp ogd_116 w h) (e15 w)
  have e17 : ∀ w ∈ on_115, goodWord w = true := fun w h => (List.mem_append.mp h).elim (fun h => List.all_eq_true.mp ogd_115 w h) (e16 w)
  have e18 : ∀ w ∈ on_114, goodWord w = true := fun w h => (List.mem_append.mp h).elim (fun h => List.all_eq_true.mp ogd_114 w h) (e17 w)
  have e19 : ∀ w ∈ on_113, goodWord w = true := fun w h => (List.mem_append.mp h).elim (fun h => List.all_eq_true.mp ogd_113 w h) (e18 w)
  have e20 : ∀ w ∈ on_112, goodWord w = true := fun w h => (List.mem_append.mp h).elim (fun h => List.all_eq_true.mp ogd_112 w h) (e19 w)
  have e21 : ∀ w ∈ on_111, goodWord w = true := fun w h => (List.mem_append.mp h).elim (fun h => List.all_eq_true.mp ogd_111 w h) (e20 w)
  have e22 : ∀ w ∈ on_110, goodWord w = true := fun w h => (List.mem_append.mp h).elim (fun h => List.all_eq_true.mp ogd_110 w h) (e21 w)
  have e23 : ∀ w ∈ on_109, goodWord w = true := fun w h => (List.mem_append.mp h).elim (fun h => List.all_eq_true.mp ogd_109 w h) (e22 w)
  have e24 : ∀ w ∈ on_108, goodWord w = true := fun w h => (List.mem_append.mp h).elim (fun h => List.all_eq_true.mp ogd_108 w h) (e23 w)
  have e25 : ∀ w ∈ on_107, goodWord w = true := fun w h => (List.mem_append.mp h).elim (fun h => List.all_eq_true.mp ogd_107 w h) (e24 w)
  have e26 : ∀ w ∈ on_106, goodWord w = true := fun w h => (List.mem_append.mp h).elim (fun h => List.all_eq_true.mp ogd_106 w h) (e25 w)
  have e27 : ∀ w ∈ on_105, goodWord w = true := fun w h => (List.mem_append.mp h).elim (fun h => List.all_eq_true.mp ogd_105 w h) (e26 w)
  have e28 : ∀ w ∈ on_104, goodWord w = true := fun w h => (List.mem_append.mp h).elim (fun h => List.all_eq_true.mp ogd_104 w h) (e27 w)
  have e29 : ∀ w ∈ on_103, goodWord w = true := fun w h => (List.mem_append.mp h).elim (fun h => List.all_eq_true.mp ogd_103 w h) (e28 w)
  have e30 : ∀ w ∈ on_102, goodWord w = true := fun w h => (List.mem_append.mp h).elim (fun h => List.all_eq_true.mp ogd_102 w h) (e29 w)
  have e31 : ∀ w ∈ on_101, goodWord w = true := fun w h => (List.mem_append.mp h).elim (fun h => List.all_eq_true.mp ogd_101 w h) (e30 w)
  have e32 : ∀ w ∈ on_100, goodWord w = true := fun w h => (List.mem_append.mp h).elim (fun h => List.all_eq_true.mp ogd_100 w h) (e31 w)
  have e33 : ∀ w ∈ on_99, goodWord w = true := fun w h => (List.mem_append.mp h).elim (fun h => List.all_eq_true.mp ogd_99 w h) (e32 w)
  have e34 : ∀ w ∈ on_98, goodWord w = true := fun w h => (List.mem_append.mp h).elim (fun h => List.all_eq_true.mp ogd_98 w h) (e33 w)
  have e35 : ∀ w ∈ on_97, goodWord w = true := fun w h => (List.mem_append.mp h).elim (fun h => List.all_eq_true.mp ogd_97 w h) (e34 w)
  have e36 : ∀ w ∈ on_96, goodWord w = true := fun w h => (List.mem_append.mp h).elim (fun h => List.all_eq_true.mp ogd_96 w h) (e35 w)
  have e37 : ∀ w ∈ on_95, goodWord w = true := fun w h => (List.mem_append.mp h).elim (fun h => List.all_eq_true.mp ogd_95 w h) (e36 w)
  have e38 : ∀ w ∈ on_94, goodWord w = true := fun w h => (List.mem_append.mp h).elim (fun h => List.all_eq_true.mp ogd_94 w h) (e37 w)
  have e39 : ∀ w ∈ on_93, goodWord w = true := fun w h => (List.mem_append.mp h).elim (fun h => List.all_eq_true.mp ogd_93 w h) (e38 w)
  have e40 : ∀ w ∈ on_92, goodWord w = true := fun w h => (List.mem_append.mp h).elim (fun h => List.all_eq_true.mp ogd_92 w h) (e39 w)
  have e41 : ∀ w ∈ on_91, goodWord w = true := fun w h => (List.mem_append.mp h).elim (fun h => List.all_eq_true.mp ogd_91 w h) (e40 w)
  have e42 : ∀ w ∈ on_90, goodWord w = true := fun w h => (List.mem_append.mp h).elim (fun h => List.all_eq_true.mp ogd_90 w h) (e41 w)
  have e43 : ∀ w ∈ on_89, goodWord w = true := fun w h => (List.mem_append.mp h).elim (fun h => List.all_eq_true.mp ogd_89 w h) (e42 w)
  have e44 : ∀ w ∈ on_88, goodWord w = true := fun w h => (List.mem_append.mp h).elim (fun h => List.all_eq_true.mp ogd_88 w h) (e43 w)
  have e45 : ∀ w ∈ on_87, goodWord w = true := fun w h => (List.mem_append.mp h).elim (fun h => List.all_eq_true.mp ogd_87 w h) (e44 w)
  have e46 : ∀ w ∈ on_86, goodWord w = true := fun w h => (List.mem_append.mp h).elim (fun h => List.all_eq_true.mp ogd_86 w h) (e45 w)
  have e47 : ∀ w ∈ on_85, goodWord w = true := fun w h => (List.mem_append.mp h).elim (fun h => List.all_eq_true.mp ogd_85 w h) (e46 w)
  have e48 : ∀ w ∈ on_84, goodWord w = true := fun w h => (List.mem_append.mp h).elim (fun h => List.all_eq_true.mp ogd_84 w h) (e47 w)
  have e49 : ∀ w ∈ on_83, goodWord w = true := fun w h => (List.mem_append.mp h).elim (fun h => List.all_eq_true.mp ogd_83 w h) (e48 w)
  have e50 : ∀ w ∈ on_82, goodWord w = true := fun w h => (List.mem_append.mp h).elim (fun h => List.all_eq_true.mp ogd_82 w h) (e49 w)
  have e51 : ∀ w ∈ on_81, goodWord w = true := fun w h => (List.mem_append.mp h).elim (fun h => List.all_eq_true.mp ogd_81 w h) (e50 w)
  have e52 : ∀ w ∈ on_80, goodWord w = true := fun w h => (List.mem_append.mp h).elim (fun h => List.all_eq_true.mp ogd_80 w h) (e51 w)
  have e53 : ∀ w ∈ on_79, goodWord w = true := fun w h => (List.mem_append.mp h).elim (fun h => List.all_eq_true.mp ogd_79 w h) (e52 w)
  have e54 : ∀ w ∈ on_78, goodWord w = true := fun w h => (List.mem_append.mp h).elim (fun h => List.all_eq_true.mp ogd_78 w h) (e53 w)
  have e55 : ∀ w ∈ on_77, goodWord w = true := fun w h => (List.mem_append.mp h).elim (fun h => List.all_eq_true.mp ogd_77 w h) (e54 w)
  have e56 : ∀ w ∈ on_76, goodWord w = true := fun w h => (List.mem_append.mp h).elim (fun h => List.all_eq_true.mp ogd_76 w h) (e55 w)
  have e57 : ∀ w ∈ on_75, goodWord w = true := fun w h => (List.mem_append.mp h).elim (fun h => List.all_eq_true.mp ogd_75 w h) (e56 w)
  have e58 : ∀ w ∈ on_74, goodWord w = true := fun w h => (List.mem_append.mp h).elim (fun h => List.all_eq_true.mp ogd_74 w h) (e57 w)
  have e59 : ∀ w ∈ on_73, goodWord w = true := fun w h => (List.mem_append.mp h).elim (fun h => List.all_eq_true.mp ogd_73 w h) (e58 w)
  have e60 : ∀ w ∈ on_72, goodWord w = true := fun w h => (List.mem_append.mp h).elim (fun h => List.all_eq_true.mp ogd_72 w h) (e59 w)
  have e61 : ∀ w ∈ on_71, goodWord w = true := fun w h => (List.mem_append.mp h).elim (fun h => List.all_eq_true.mp ogd_71 w h) (e60 w)
  have e62 : ∀ w ∈ on_70, goodWord w = true := fun w h => (List.mem_append.mp h).elim (fun h => List.all_eq_true.mp ogd_70 w h) (e61 w)
  have e63 : ∀ w ∈ on_69, goodWord w = true := fun w h => (List.mem_append.mp h).elim (fun h => List.all_eq_true.mp ogd_69 w h) (e62 w)
  have e64 : ∀ w ∈ on_68, goodWord w = true := fun w h => (List.mem_append.mp h).elim (fun h => List.all_eq_true.mp ogd_68 w h) (e63 w)
  have e65 : ∀ w ∈ on_67, goodWord w = true := fun w h => (List.mem_append.mp h).elim (fun h => List.all_eq_true.mp ogd_67 w h) (e64 w)
  have e66 : ∀ w ∈ on_66, goodWord w = true := fun w h => (List.mem_append.mp h).elim (fun h => List.all_eq_true.mp ogd_66 w h) (e65 w)
  have e67 : ∀ w ∈ on_65, goodWord w = true := fun w h => (List.mem_append.mp h).elim (fun h => List.all_eq_true.mp ogd_65 w h) (e66 w)
  have e68 : ∀ w ∈ on_64, goodWord w = true := fun w h => (List.mem_append.mp h).elim (fun h => List.all_eq_true.mp ogd_64 w h) (e67 w)
  have e69 : ∀ w ∈ on_63, goodWord w = true := fun w h => (List.mem_append.mp h).elim (fun h => List.all_eq_true.mp ogd_63 w h) (e68 w)
  have e70 : ∀ w ∈ on_62, goodWord w = true := fun w h => (List.mem_append.mp h).elim (fun h => List.all_eq_true.mp ogd_62 w h) (e69 w)
  have e71 : ∀ w ∈ on_61, goodWord w = true := fun w h => (List.mem_append.mp h).elim (fun h => List.all_eq_true.mp ogd_61 w h) (e70 w)
  have e72 : ∀ w ∈ on_60, goodWord w = true := fun w h => (List.mem_append.mp h).elim (fun h => List.all_eq_true.mp ogd_60 w h) (e71 w)
  have e73 : ∀ w ∈ on_59, goodWord w = true := fun w h => (List.mem_append.mp h).elim (fun h => List.all_eq_true.mp ogd_59 w h) (e72 w)
  have e74 : ∀ w ∈ on_58, goodWord w = true := fun w h => (List.mem_append.mp h).elim (fun h => List.all_eq_true.mp ogd_58 w h) (e73 w)
  have e75 : ∀ w ∈ on_57, goodWord w = true := fun w h => (List.mem_append.mp h).elim (fun h => List.all_eq_true.mp ogd_57 w h) (e74 w)
  have e76 : ∀ w ∈ on_56, goodWord w = true := fun w h => (List.mem_append.mp h).elim (fun h => List.all_eq_true.mp ogd_56 w h) (e75 w)
  have e77 : ∀ w ∈ on_55, goodWord w = true := fun w h => (List.mem_append.mp h).elim (fun h => List.all_eq_true.mp ogd_55 w h) (e76 w)
  have e78 : ∀ w ∈ on_54, goodWord w = true := fun w h => (List.mem_append.mp h).elim (fun h => List.all_eq_true.mp ogd_54 w h) (e77 w)
  have e79 : ∀ w ∈ on_53, goodWord w = true := fun w h => (List.mem_append.mp h).elim (fun h => List.all_eq_true.mp ogd_53 w h) (e78 w)
  have e80 : ∀ w ∈ on_52, goodWord w = true := fun w h => (List.mem_append.mp h).elim (fun h => List.all_eq_true.mp ogd_52 w h) (e79 w)
  have e81 : ∀ w ∈ on_51, goodWord w = true := fun w h => (List.mem_append.mp h).elim (fun h => List.all_eq_true.mp ogd_51 w h) (e80 w)
  have e82 : ∀ w ∈ on_50, goodWord w = true := fun w h => (List.mem_append.mp h).elim (fun h => List.all_eq_true.mp ogd_50 w h) (e81 w)
  have e83 : ∀ w ∈ on_49, goodWord w = true := fun w h => (List.mem_append.mp h).elim (fun h => List.all_eq_true.mp ogd_49 w h) (e82 w)
  have e84 : ∀ w ∈ on_48, goodWord w = true := fun w h => (List.mem_append.mp h).elim (fun h => List.all_eq_true.mp ogd_48 w h) (e83 w)
  have e85 : ∀ w ∈ on_47, goodWord w = true := fun w h => (List.mem_append.mp h).elim (fun h => List.all_eq_true.mp ogd_47 w h) (e84 w)
  have e86 : ∀ w ∈ on_46, goodWord w = true := fun w h => (List.mem_append.mp h).elim (fun h => List.all_eq_true.mp ogd_46 w h) (e85 w)
  have e87 : ∀ w ∈ on_45, goodWord w = true := fun w h => (List.mem_append.mp h).elim (fun h => List.all_eq_true.mp ogd_45 w h) (e86 w)
  have e88 : ∀ w ∈ on_44, goodWord w = true := fun w h => (List.mem_append.mp h).elim (fun h => List.all_eq_true.mp ogd_44 w h) (e87 w)
  have e89 : ∀ w ∈ on_43, goodWord w = true := fun w h => (List.mem_append.mp h).elim (fun h => List.all_eq_true.mp ogd_43 w h) (e88 w)
  have e90 : ∀ w ∈ on_42, goodWord w = true := fun w h => (List.mem_append.mp h).elim (fun h => List.all_eq_true.mp ogd_42 w h) (e89 w)
  have e91 : ∀ w ∈ on_41, goodWord w = true := fun w h => (List.mem_append.mp h).elim (fun h => List.all_eq_true.mp ogd_41 w h) (e90 w)
  have e92 : ∀ w ∈ on_40, goodWord w = true := fun w h => (List.mem_append.mp h).elim (fun h => List.all_eq_true.mp ogd_40 w h) (e91 w)
  have e93 : ∀ w ∈ on_39, goodWord w = true := fun w h => (List.mem_append.mp h).elim (fun h => List.all_eq_true.mp ogd_39 w h) (e92 w)
  have e94 : ∀ w ∈ on_38, goodWord w = true := fun w h => (List.mem_append.mp h).elim (fun h => List.all_eq_true.mp ogd_38 w h) (e93 w)
  have e95 : ∀ w ∈ on_37, goodWord w = true := fun w h => (List.mem_append.mp h).elim (fun h => List.all_eq_true.mp ogd_37 w h) (e94 w)
  have e96 : ∀ w ∈ on_36, goodWord w = true := fun w h => (List.mem_append.mp h).elim (fun h => List.all_eq_true.mp ogd_36 w h) (e95 w)
  have e97 : ∀ w ∈ on_35, goodWord w = true := fun w h => (List.mem_append.mp h).elim (fun h => List.all_eq_true.mp ogd_35 w h) (e96 w)
  have e98 : ∀ w ∈ on_34, goodWord w = true := fun w h => (List.mem_append.mp h).elim (fun h => List.all_eq_true.mp ogd_34 w h) (e97 w)
  have e99 : ∀ w ∈ on_33, goodWord w = true := fun w h => (List.mem_append.mp h).elim (fun h => List.all_eq_true.mp ogd_33 w h) (e98 w)
  have e100 : ∀ w ∈ on_32, goodWord w = true := fun w h => (List.mem_append.mp h).elim (fun h => List.all_eq_true.mp ogd_32 w h) (e99 w)
  have e101 : ∀ w ∈ on_31, goodWord w = true := fun w h => (List.mem_append.mp h).elim (fun h => List.all_eq_true.mp ogd_31 w h) (e100 w)
  have e102 : ∀ w ∈ on_30, goodWord w = true := fun w h => (List.mem_append.mp h).elim (fun h => List.all_eq_true.mp ogd_30 w h) (e101 w)
  have e103 : ∀ w ∈ on_29, goodWord w = true := fun w h => (List.mem_append.mp h).elim (fun h => List.all_eq_true.mp ogd_29 w h) (e102 w)
  have e104 : ∀ w ∈ on_28, goodWord w = true := fun w h => (List.mem_append.mp h).elim (fun h => List.all_eq_true.mp ogd_28 w h) (e103 w)
  have e105 : ∀ w ∈ on_27, goodWord w = true := fun w h => (List.mem_append.mp h).elim (fun h => List.all_eq_true.mp ogd_27 w h) (e104 w)
  have e106 : ∀ w ∈ on_26, goodWord w = true := fun w h => (List.mem_append.mp h).elim (fun h => List.all_eq_true.mp ogd_26 w h) (e105 w)
  have e107 : ∀ w ∈ on_25, goodWord w = true := fun w h => (List.mem_append.mp h).elim (fun h => List.all_eq_true.mp ogd_25 w h) (e106 w)
  have e108 : ∀ w ∈ on_24, goodWord w = true := fun w h => (List.mem_append.mp h).elim (fun h => List.all_eq_true.mp ogd_24 w h) (e107 w)
  have e109 : ∀ w ∈ on_23, goodWord w = true := fun w h => (List.mem_append.mp h).elim (fun h => List.all_eq_true.mp ogd_23 w h) (e108 w)
  have e110 : ∀ w ∈ on_22, goodWord w = true := fun w h => (List.mem_append.mp h).elim (fun h => List.all_eq_true.mp ogd_22 w h) (e109 w)
  have e111 : ∀ w ∈ on_21, goodWord w = true := fun w h => (List.mem_append.mp h).elim (fun h => List.all_eq_true.mp ogd_21 w h) (e110 w)
  have e112 : ∀ w ∈ on_20, goodWord w = true := fun w h => (List.mem_append.mp h).elim (fun h => List.all_eq_true.mp ogd_20 w h) (e111 w)
  have e113 : ∀ w ∈ on_19, goodWord w = true := fun w h => (List.mem_append.mp h).elim (fun h => List.all_eq_true.mp ogd_19 w h) (e112 w)
  have e114 : ∀ w ∈ on_18, goodWord w = true := fun w h => (List.mem_append.mp h).elim (fun h => List.all_eq_true.mp ogd_18 w h) (e113 w)
  have e115 : ∀ w ∈ on_17, goodWord w = true := fun w h => (List.mem_append.mp h).elim (fun h => List.all_eq_true.mp ogd_17 w h) (e114 w)
  have e116 : ∀ w ∈ on_16, goodWord w = true := fun w h => (List.mem_append.mp h).elim (fun h => List.all_eq_true.mp ogd_16 w h) (e115 w)
  have e117 : ∀ w ∈ on_15, goodWord w = true := fun w h => (List.mem_append.mp h).elim (fun h => List.all_eq_true.mp ogd_15 w h) (e116 w)
  have e118 : ∀ w ∈ on_14, goodWord w = true := fun w h => (List.mem_append.mp h).elim (fun h => List.all_eq_true.mp ogd_14 w h) (e117 w)
  have e119 : ∀ w ∈ on_13, goodWord w = true := fun w h => (List.mem_append.mp h).elim (fun h => List.all_eq_true.mp ogd_13 w h) (e118 w)
  have e120 : ∀ w ∈ on_12, goodWord w = true := fun w h => (List.mem_append.mp h).elim (fun h => List.all_eq_true.mp ogd_12 w h) (e119 w)
  have e121 : ∀ w ∈ on_11, goodWord w = true := fun w h => (List.mem_append.mp h).elim (fun h => List.all_eq_true.mp ogd_11 w h) (e120 w)
  have e122 : ∀ w ∈ on_10, goodWord w = true := fun w h => (List.mem_append.mp h).elim (fun h => List.all_eq_true.mp ogd_10 w h) (e121 w)
  have e123 : ∀ w ∈ on_9, goodWord w = true := fun w h => (List.mem_append.mp h).elim (fun h => List.all_eq_true.mp ogd_9 w h) (e122 w)
  have e124 : ∀ w ∈ on_8, goodWord w = true := fun w h => (List.mem_append.mp h).elim (fun h => List.all_eq_true.mp ogd_8 w h) (e123 w)
  have e125 : ∀ w ∈ on_7, goodWord w = true := fun w h => (List.mem_append.mp h).elim (fun h => List.all_eq_true.mp ogd_7 w h) (e124 w)
  have e126 : ∀ w ∈ on_6, goodWord w = true := fun w h => (List.mem_append.mp h).elim (fun h => List.all_eq_true.mp ogd_6 w h) (e125 w)
  have e127 : ∀ w ∈ on_5, goodWord w = true := fun w h => (List.mem_append.mp h).elim (fun h => List.all_eq_true.mp ogd_5 w h) (e126 w)
  have e128 : ∀ w ∈ on_4, goodWord w = true := fun w h => (List.mem_append.mp h).elim (fun h => List.all_eq_true.mp ogd_4 w h) (e127 w)
  have e129 : ∀ w ∈ on_3, goodWord w = true := fun w h => (List.mem_append.mp h).elim (fun h => List.all_eq_true.mp ogd_3 w h) (e128 w)
  have e130 : ∀ w ∈ on_2, goodWord w = true := fun w h => (List.mem_append.mp h).elim (fun h => List.all_eq_true.mp ogd_2 w h) (e129 w)
  have e131 : ∀ w ∈ on_1, goodWord w = true := fun w h => (List.mem_append.mp h).elim (fun h => List.all_eq_true.mp ogd_1 w h) (e130 w)
  have e132 : ∀ w ∈ on_0, goodWord w = true := fun w h => (List.mem_append.mp h).elim (fun h => List.all_eq_true.mp ogd_0 w h) (e131 w)
  exact e132
theorem Om_good : GoodIn Om Om := fun w h => ⟨h, good_of_word (Om_gw w h)⟩
theorem om_0 : (.code yX0_put cX0_put 2 none : Cond) ∈ Om := ot_0 _ (List.mem_of_getElem? (i := 0) rfl)
theorem om_1 : (.methodLink RX0 39 yX0_put : Cond) ∈ Om := ot_0 _ (List.mem_of_getElem? (i := 1) rfl)
theorem om_2 : (.instanceMethod yX0_put : Cond) ∈ Om := ot_0 _ (List.mem_of_getElem? (i := 2) rfl)
theorem om_3 : (.selects RX0 yX0_put yX0_put : Cond) ∈ Om := ot_0 _ (List.mem_of_getElem? (i := 3) rfl)
theorem om_4 : (.initialized RX0 : Cond) ∈ Om := ot_0 _ (List.mem_of_getElem? (i := 4) rfl)
theorem om_5 : (.constantLong RX0 89 (127) : Cond) ∈ Om := ot_0 _ (List.mem_of_getElem? (i := 5) rfl)
theorem om_6 : (.code yX0_putNumber cX0_putNumber 6 none : Cond) ∈ Om := ot_0 _ (List.mem_of_getElem? (i := 6) rfl)
theorem om_7 : (.methodLink RX0 46 yX0_putNumber : Cond) ∈ Om := ot_0 _ (List.mem_of_getElem? (i := 7) rfl)
theorem om_8 : (.instanceMethod yX0_putNumber : Cond) ∈ Om := ot_0 _ (List.mem_of_getElem? (i := 8) rfl)
theorem om_9 : (.selects RX0 yX0_putNumber yX0_putNumber : Cond) ∈ Om := ot_0 _ (List.mem_of_getElem? (i := 9) rfl)
theorem om_10 : (.methodLink RX0 79 Lib.Math.min.name : Cond) ∈ Om := ot_0 _ (List.mem_of_getElem? (i := 10) rfl)
theorem om_11 : (.static Lib.Math.min.name : Cond) ∈ Om := ot_0 _ (List.mem_of_getElem? (i := 11) rfl)
theorem om_12 : (.initialized "java/lang/Math" : Cond) ∈ Om := ot_0 _ (List.mem_of_getElem? (i := 12) rfl)
theorem om_13 : (.code Lib.Math.min.name Lib.Math.min.code 2 (some .int) : Cond) ∈ Om := ot_0 _ (List.mem_of_getElem? (i := 13) rfl)
theorem om_14 : (.constant RX0 91 (16777619) : Cond) ∈ Om := ot_0 _ (List.mem_of_getElem? (i := 14) rfl)
theorem om_15 : (.code yX0_checkOf cX0_checkOf 5 (some .int) : Cond) ∈ Om := ot_0 _ (List.mem_of_getElem? (i := 15) rfl)
theorem om_16 : (.methodLink RX0 85 yX0_checkOf : Cond) ∈ Om := ot_0 _ (List.mem_of_getElem? (i := 16) rfl)
theorem om_17 : (.static yX0_checkOf : Cond) ∈ Om := ot_0 _ (List.mem_of_getElem? (i := 17) rfl)
theorem om_18 : (.code yX5_forget cX5_forget 2 none : Cond) ∈ Om := ot_0 _ (List.mem_of_getElem? (i := 18) rfl)
theorem om_19 : (.methodLink RX0 107 yX5_forget : Cond) ∈ Om := ot_0 _ (List.mem_of_getElem? (i := 19) rfl)
theorem om_20 : (.instanceMethod yX5_forget : Cond) ∈ Om := ot_0 _ (List.mem_of_getElem? (i := 20) rfl)
theorem om_21 : (.selects RX5 yX5_forget yX5_forget : Cond) ∈ Om := ot_0 _ (List.mem_of_getElem? (i := 21) rfl)
theorem om_22 : (.initialized RX5 : Cond) ∈ Om := ot_0 _ (List.mem_of_getElem? (i := 22) rfl)
theorem om_23 : (.code yX0_fail cX0_fail 3 (some .boolean) : Cond) ∈ Om := ot_0 _ (List.mem_of_getElem? (i := 23) rfl)
theorem om_24 : (.methodLink RX0 130 yX0_fail : Cond) ∈ Om := ot_1 _ (List.mem_of_getElem? (i := 0) rfl)
theorem om_25 : (.instanceMethod yX0_fail : Cond) ∈ Om := ot_1 _ (List.mem_of_getElem? (i := 1) rfl)
theorem om_26 : (.selects RX0 yX0_fail yX0_fail : Cond) ∈ Om := ot_1 _ (List.mem_of_getElem? (i := 2) rfl)
theorem om_27 : (.code yX0_readMarks cX0_readMarks 2 (some .boolean) : Cond) ∈ Om := ot_1 _ (List.mem_of_getElem? (i := 3) rfl)
theorem om_28 : (.methodLink RX0 110 yX0_readMarks : Cond) ∈ Om := ot_1 _ (List.mem_of_getElem? (i := 4) rfl)
theorem om_29 : (.instanceMethod yX0_readMarks : Cond) ∈ Om := ot_1 _ (List.mem_of_getElem? (i := 5) rfl)
theorem om_30 : (.selects RX0 yX0_readMarks yX0_readMarks : Cond) ∈ Om := ot_1 _ (List.mem_of_getElem? (i := 6) rfl)
theorem om_31 : (.code yX0_readNumber cX0_readNumber 5 (some .long) : Cond) ∈ Om := ot_1 _ (List.mem_of_getElem? (i := 7) rfl)
theorem om_32 : (.methodLink RX0 137 yX0_readNumber : Cond) ∈ Om := ot_1 _ (List.mem_of_getElem? (i := 8) rfl)
theorem om_33 : (.instanceMethod yX0_readNumber : Cond) ∈ Om := ot_1 _ (List.mem_of_getElem? (i := 9) rfl)
theorem om_34 : (.selects RX0 yX0_readNumber yX0_readNumber : Cond) ∈ Om := ot_1 _ (List.mem_of_getElem? (i := 10) rfl)
theorem om_35 : (.code yX0_readUpTo cX0_readUpTo 4 (some .int) : Cond) ∈ Om := ot_1 _ (List.mem_of_getElem? (i := 11) rfl)
theorem om_36 : (.methodLink RX0 141 yX0_readUpTo : Cond) ∈ Om := ot_1 _ (List.mem_of_getElem? (i := 12) rfl)
theorem om_37 : (.instanceMethod yX0_readUpTo : Cond) ∈ Om := ot_1 _ (List.mem_of_getElem? (i := 13) rfl)
theorem om_38 : (.selects RX0 yX0_readUpTo yX0_readUpTo : Cond) ∈ Om := ot_1 _ (List.mem_of_getElem? (i := 14) rfl)
theorem om_39 : (.code yX10_isArray cX10_isArray 1 (some .boolean) : Cond) ∈ Om := ot_1 _ (List.mem_of_getElem? (i := 15) rfl)
theorem om_40 : (.methodLink RX0 164 yX10_isArray : Cond) ∈ Om := ot_1 _ (List.mem_of_getElem? (i := 16) rfl)
theorem om_41 : (.static yX10_isArray : Cond) ∈ Om := ot_1 _ (List.mem_of_getElem? (i := 17) rfl)
theorem om_42 : (.initialized RX10 : Cond) ∈ Om := ot_1 _ (List.mem_of_getElem? (i := 18) rfl)
theorem om_43 : (.methodLink RX10 86 yX10_isArray : Cond) ∈ Om := ot_1 _ (List.mem_of_getElem? (i := 19) rfl)
theorem om_44 : (.code yX10_slotsOf cX10_slotsOf 3 (some .int) : Cond) ∈ Om := ot_1 _ (List.mem_of_getElem? (i := 20) rfl)
theorem om_45 : (.methodLink RX0 167 yX10_slotsOf : Cond) ∈ Om := ot_1 _ (List.mem_of_getElem? (i := 21) rfl)
theorem om_46 : (.instanceMethod yX10_slotsOf : Cond) ∈ Om := ot_1 _ (List.mem_of_getElem? (i := 22) rfl)
theorem om_47 : (.selects RX10 yX10_slotsOf yX10_slotsOf : Cond) ∈ Om := ot_1 _ (List.mem_of_getElem? (i := 23) rfl)
theorem om_48 : (.code yX5_addThing cX5_addThing 6 (some .int) : Cond) ∈ Om := ot_2 _ (List.mem_of_getElem? (i := 0) rfl)
theorem om_49 : (.methodLink RX0 170 yX5_addThing : Cond) ∈ Om := ot_2 _ (List.mem_of_getElem? (i := 1) rfl)
theorem om_50 : (.instanceMethod yX5_addThing : Cond) ∈ Om := ot_2 _ (List.mem_of_getElem? (i := 2) rfl)
theorem om_51 : (.selects RX5 yX5_addThing yX5_addThing : Cond) ∈ Om := ot_2 _ (List.mem_of_getElem? (i := 3) rfl)
theorem om_52 : (.code yX10_isClass cX10_isClass 2 (some .boolean) : Cond) ∈ Om := ot_2 _ (List.mem_of_getElem? (i := 4) rfl)
theorem om_53 : (.methodLink RX10 69 yX10_isClass : Cond) ∈ Om := ot_2 _ (List.mem_of_getElem? (i := 5) rfl)
theorem om_54 : (.instanceMethod yX10_isClass : Cond) ∈ Om := ot_2 _ (List.mem_of_getElem? (i := 6) rfl)
theorem om_55 : (.selects RX10 yX10_isClass yX10_isClass : Cond) ∈ Om := ot_2 _ (List.mem_of_getElem? (i := 7) rfl)
theorem om_56 : (.code yX10_isType cX10_isType 2 (some .boolean) : Cond) ∈ Om := ot_2 _ (List.mem_of_getElem? (i := 8) rfl)
theorem om_57 : (.methodLink RX0 160 yX10_isType : Cond) ∈ Om := ot_2 _ (List.mem_of_getElem? (i := 9) rfl)
theorem om_58 : (.instanceMethod yX10_isType : Cond) ∈ Om := ot_2 _ (List.mem_of_getElem? (i := 10) rfl)
theorem om_59 : (.selects RX10 yX10_isType yX10_isType : Cond) ∈ Om := ot_2 _ (List.mem_of_getElem? (i := 11) rfl)
theorem om_60 : (.code yX0_readThing cX0_readThing 7 (some .boolean) : Cond) ∈ Om := ot_2 _ (List.mem_of_getElem? (i := 12) rfl)
theorem om_61 : (.methodLink RX0 145 yX0_readThing : Cond) ∈ Om := ot_2 _ (List.mem_of_getElem? (i := 13) rfl)
theorem om_62 : (.instanceMethod yX0_readThing : Cond) ∈ Om := ot_2 _ (List.mem_of_getElem? (i := 14) rfl)
theorem om_63 : (.selects RX0 yX0_readThing yX0_readThing : Cond) ∈ Om := ot_2 _ (List.mem_of_getElem? (i := 15) rfl)
theorem om_64 : (.code yX10_kindAt cX10_kindAt 3 (some .int) : Cond) ∈ Om := ot_2 _ (List.mem_of_getElem? (i := 16) rfl)
theorem om_65 : (.methodLink RX0 174 yX10_kindAt : Cond) ∈ Om := ot_2 _ (List.mem_of_getElem? (i := 17) rfl)
theorem om_66 : (.instanceMethod yX10_kindAt : Cond) ∈ Om := ot_2 _ (List.mem_of_getElem? (i := 18) rfl)
theorem om_67 : (.selects RX10 yX10_kindAt yX10_kindAt : Cond) ∈ Om := ot_2 _ (List.mem_of_getElem? (i := 19) rfl)
theorem om_68 : (.fieldLink RX10 83 "HeapWorks$Types" "WIDTH" "[I" : Cond) ∈ Om := ot_2 _ (List.mem_of_getElem? (i := 20) rfl)
theorem om_69 : (.code yX10_isNumber cX10_isNumber 4 (some .boolean) : Cond) ∈ Om := ot_2 _ (List.mem_of_getElem? (i := 21) rfl)
theorem om_70 : (.methodLink RX0 177 yX10_isNumber : Cond) ∈ Om := ot_2 _ (List.mem_of_getElem? (i := 22) rfl)
theorem om_71 : (.static yX10_isNumber : Cond) ∈ Om := ot_2 _ (List.mem_of_getElem? (i := 23) rfl)
theorem om_72 : (.code yX0_readSlots cX0_readSlots 8 (some .boolean) : Cond) ∈ Om := ot_3 _ (List.mem_of_getElem? (i := 0) rfl)
theorem om_73 : (.methodLink RX0 149 yX0_readSlots : Cond) ∈ Om := ot_3 _ (List.mem_of_getElem? (i := 1) rfl)
theorem om_74 : (.instanceMethod yX0_readSlots : Cond) ∈ Om := ot_3 _ (List.mem_of_getElem? (i := 2) rfl)
theorem om_75 : (.selects RX0 yX0_readSlots yX0_readSlots : Cond) ∈ Om := ot_3 _ (List.mem_of_getElem? (i := 3) rfl)
theorem om_76 : (.code yX0_readThings cX0_readThings 4 (some .boolean) : Cond) ∈ Om := ot_3 _ (List.mem_of_getElem? (i := 4) rfl)
theorem om_77 : (.methodLink RX0 114 yX0_readThings : Cond) ∈ Om := ot_3 _ (List.mem_of_getElem? (i := 5) rfl)
theorem om_78 : (.instanceMethod yX0_readThings : Cond) ∈ Om := ot_3 _ (List.mem_of_getElem? (i := 6) rfl)
theorem om_79 : (.selects RX0 yX0_readThings yX0_readThings : Cond) ∈ Om := ot_3 _ (List.mem_of_getElem? (i := 7) rfl)
theorem om_80 : (.code yX10_linkAt cX10_linkAt 3 (some .int) : Cond) ∈ Om := ot_3 _ (List.mem_of_getElem? (i := 8) rfl)
theorem om_81 : (.methodLink RX0 183 yX10_linkAt : Cond) ∈ Om := ot_3 _ (List.mem_of_getElem? (i := 9) rfl)
theorem om_82 : (.instanceMethod yX10_linkAt : Cond) ∈ Om := ot_3 _ (List.mem_of_getElem? (i := 10) rfl)
theorem om_83 : (.selects RX10 yX10_linkAt yX10_linkAt : Cond) ∈ Om := ot_3 _ (List.mem_of_getElem? (i := 11) rfl)
theorem om_84 : (.code yX10_isHeir cX10_isHeir 5 (some .boolean) : Cond) ∈ Om := ot_3 _ (List.mem_of_getElem? (i := 12) rfl)
theorem om_85 : (.methodLink RX10 92 yX10_isHeir : Cond) ∈ Om := ot_3 _ (List.mem_of_getElem? (i := 13) rfl)
theorem om_86 : (.instanceMethod yX10_isHeir : Cond) ∈ Om := ot_3 _ (List.mem_of_getElem? (i := 14) rfl)
theorem om_87 : (.selects RX10 yX10_isHeir yX10_isHeir : Cond) ∈ Om := ot_3 _ (List.mem_of_getElem? (i := 15) rfl)
theorem om_88 : (.code yX10_fits cX10_fits 3 (some .boolean) : Cond) ∈ Om := ot_3 _ (List.mem_of_getElem? (i := 16) rfl)
theorem om_89 : (.methodLink RX0 186 yX10_fits : Cond) ∈ Om := ot_3 _ (List.mem_of_getElem? (i := 17) rfl)
theorem om_90 : (.instanceMethod yX10_fits : Cond) ∈ Om := ot_3 _ (List.mem_of_getElem? (i := 18) rfl)
theorem om_91 : (.selects RX10 yX10_fits yX10_fits : Cond) ∈ Om := ot_3 _ (List.mem_of_getElem? (i := 19) rfl)
theorem om_92 : (.constantLong RX0 181 (-1) : Cond) ∈ Om := ot_3 _ (List.mem_of_getElem? (i := 20) rfl)
theorem om_93 : (.code yX0_checkLinks cX0_checkLinks 5 (some .boolean) : Cond) ∈ Om := ot_3 _ (List.mem_of_getElem? (i := 21) rfl)
theorem om_94 : (.methodLink RX0 118 yX0_checkLinks : Cond) ∈ Om := ot_3 _ (List.mem_of_getElem? (i := 22) rfl)
theorem om_95 : (.instanceMethod yX0_checkLinks : Cond) ∈ Om := ot_3 _ (List.mem_of_getElem? (i := 23) rfl)
theorem om_96 : (.selects RX0 yX0_checkLinks yX0_checkLinks : Cond) ∈ Om := ot_4 _ (List.mem_of_getElem? (i := 0) rfl)
theorem om_97 : (.code yX5_addRoot cX5_addRoot 3 none : Cond) ∈ Om := ot_4 _ (List.mem_of_getElem? (i := 1) rfl)
theorem om_98 : (.methodLink RX0 189 yX5_addRoot : Cond) ∈ Om := ot_4 _ (List.mem_of_getElem? (i := 2) rfl)
theorem om_99 : (.instanceMethod yX5_addRoot : Cond) ∈ Om := ot_4 _ (List.mem_of_getElem? (i := 3) rfl)
theorem om_100 : (.selects RX5 yX5_addRoot yX5_addRoot : Cond) ∈ Om := ot_4 _ (List.mem_of_getElem? (i := 4) rfl)
theorem om_101 : (.code yX0_readRoots cX0_readRoots 7 (some .boolean) : Cond) ∈ Om := ot_4 _ (List.mem_of_getElem? (i := 5) rfl)
theorem om_102 : (.methodLink RX0 121 yX0_readRoots : Cond) ∈ Om := ot_4 _ (List.mem_of_getElem? (i := 6) rfl)
theorem om_103 : (.instanceMethod yX0_readRoots : Cond) ∈ Om := ot_4 _ (List.mem_of_getElem? (i := 7) rfl)
theorem om_104 : (.selects RX0 yX0_readRoots yX0_readRoots : Cond) ∈ Om := ot_4 _ (List.mem_of_getElem? (i := 8) rfl)
theorem om_105 : (.code yX0_readCheck cX0_readCheck 3 (some .boolean) : Cond) ∈ Om := ot_4 _ (List.mem_of_getElem? (i := 9) rfl)
theorem om_106 : (.methodLink RX0 124 yX0_readCheck : Cond) ∈ Om := ot_4 _ (List.mem_of_getElem? (i := 10) rfl)
theorem om_107 : (.instanceMethod yX0_readCheck : Cond) ∈ Om := ot_4 _ (List.mem_of_getElem? (i := 11) rfl)
theorem om_108 : (.selects RX0 yX0_readCheck yX0_readCheck : Cond) ∈ Om := ot_4 _ (List.mem_of_getElem? (i := 12) rfl)
theorem om_109 : (.code yX5_setWay cX5_setWay 4 none : Cond) ∈ Om := ot_4 _ (List.mem_of_getElem? (i := 13) rfl)
theorem om_110 : (.methodLink RX5 148 yX5_setWay : Cond) ∈ Om := ot_4 _ (List.mem_of_getElem? (i := 14) rfl)
theorem om_111 : (.instanceMethod yX5_setWay : Cond) ∈ Om := ot_4 _ (List.mem_of_getElem? (i := 15) rfl)
theorem om_112 : (.selects RX5 yX5_setWay yX5_setWay : Cond) ∈ Om := ot_4 _ (List.mem_of_getElem? (i := 16) rfl)
theorem om_113 : (.code yX5_findWays cX5_findWays 4 (some .int) : Cond) ∈ Om := ot_4 _ (List.mem_of_getElem? (i := 17) rfl)
theorem om_114 : (.methodLink RX0 193 yX5_findWays : Cond) ∈ Om := ot_4 _ (List.mem_of_getElem? (i := 18) rfl)
theorem om_115 : (.instanceMethod yX5_findWays : Cond) ∈ Om := ot_4 _ (List.mem_of_getElem? (i := 19) rfl)
theorem om_116 : (.selects RX5 yX5_findWays yX5_findWays : Cond) ∈ Om := ot_4 _ (List.mem_of_getElem? (i := 20) rfl)
theorem om_117 : (.code yX0_checkWalk cX0_checkWalk 3 (some .boolean) : Cond) ∈ Om := ot_4 _ (List.mem_of_getElem? (i := 21) rfl)
theorem om_118 : (.methodLink RX0 127 yX0_checkWalk : Cond) ∈ Om := ot_4 _ (List.mem_of_getElem? (i := 22) rfl)
theorem om_119 : (.instanceMethod yX0_checkWalk : Cond) ∈ Om := ot_4 _ (List.mem_of_getElem? (i := 23) rfl)
theorem om_120 : (.selects RX0 yX0_checkWalk yX0_checkWalk : Cond) ∈ Om := ot_5 _ (List.mem_of_getElem? (i := 0) rfl)
theorem om_121 : (.methodLink RX0 200 arraycopyName : Cond) ∈ Om := ot_5 _ (List.mem_of_getElem? (i := 1) rfl)
theorem om_122 : (.native arraycopyName : Cond) ∈ Om := ot_5 _ (List.mem_of_getElem? (i := 2) rfl)
theorem om_123 : (.static arraycopyName : Cond) ∈ Om := ot_5 _ (List.mem_of_getElem? (i := 3) rfl)
theorem om_124 : (.initialized "java/lang/System" : Cond) ∈ Om := ot_5 _ (List.mem_of_getElem? (i := 4) rfl)
theorem om_125 : (.methodLink RX0 209 Lib.Math.max.name : Cond) ∈ Om := ot_5 _ (List.mem_of_getElem? (i := 5) rfl)
theorem om_126 : (.static Lib.Math.max.name : Cond) ∈ Om := ot_5 _ (List.mem_of_getElem? (i := 6) rfl)
theorem om_127 : (.code Lib.Math.max.name Lib.Math.max.code 2 (some .int) : Cond) ∈ Om := ot_5 _ (List.mem_of_getElem? (i := 7) rfl)
theorem om_128 : (.code yX0_recordEnd cX0_recordEnd 3 (some .int) : Cond) ∈ Om := ot_5 _ (List.mem_of_getElem? (i := 8) rfl)
theorem om_129 : (.methodLink RX0 212 yX0_recordEnd : Cond) ∈ Om := ot_5 _ (List.mem_of_getElem? (i := 9) rfl)
theorem om_130 : (.instanceMethod yX0_recordEnd : Cond) ∈ Om := ot_5 _ (List.mem_of_getElem? (i := 10) rfl)
theorem om_131 : (.selects RX0 yX0_recordEnd yX0_recordEnd : Cond) ∈ Om := ot_5 _ (List.mem_of_getElem? (i := 11) rfl)
theorem om_132 : (.code yX0_decode cX0_decode 5 (some .boolean) : Cond) ∈ Om := ot_5 _ (List.mem_of_getElem? (i := 12) rfl)
theorem om_133 : (.methodLink RX0 215 yX0_decode : Cond) ∈ Om := ot_5 _ (List.mem_of_getElem? (i := 13) rfl)
theorem om_134 : (.instanceMethod yX0_decode : Cond) ∈ Om := ot_5 _ (List.mem_of_getElem? (i := 14) rfl)
theorem om_135 : (.selects RX0 yX0_decode yX0_decode : Cond) ∈ Om := ot_5 _ (List.mem_of_getElem? (i := 15) rfl)
theorem om_136 : (.methodLink RX1 44 Lib.Math.min.name : Cond) ∈ Om := ot_5 _ (List.mem_of_getElem? (i := 16) rfl)
theorem om_137 : (.code yJ7_fill_d0a16 cJ7_fill_d0a16 5 none : Cond) ∈ Om := ot_5 _ (List.mem_of_getElem? (i := 17) rfl)
theorem om_138 : (.methodLink RX1 55 yJ7_fill_d0a16 : Cond) ∈ Om := ot_5 _ (List.mem_of_getElem? (i := 18) rfl)
theorem om_139 : (.static yJ7_fill_d0a16 : Cond) ∈ Om := ot_5 _ (List.mem_of_getElem? (i := 19) rfl)
theorem om_140 : (.initialized RJ7 : Cond) ∈ Om := ot_5 _ (List.mem_of_getElem? (i := 20) rfl)
theorem om_141 : (.code yX1_addFact cX1_addFact 5 none : Cond) ∈ Om := ot_5 _ (List.mem_of_getElem? (i := 21) rfl)
theorem om_142 : (.methodLink RX1 92 yX1_addFact : Cond) ∈ Om := ot_5 _ (List.mem_of_getElem? (i := 22) rfl)
theorem om_143 : (.instanceMethod yX1_addFact : Cond) ∈ Om := ot_5 _ (List.mem_of_getElem? (i := 23) rfl)
theorem om_144 : (.selects RX1 yX1_addFact yX1_addFact : Cond) ∈ Om := ot_6 _ (List.mem_of_getElem? (i := 0) rfl)
theorem om_145 : (.initialized RX1 : Cond) ∈ Om := ot_6 _ (List.mem_of_getElem? (i := 1) rfl)
theorem om_146 : (.constantLong RX1 90 (-1) : Cond) ∈ Om := ot_6 _ (List.mem_of_getElem? (i := 2) rfl)
theorem om_147 : (.code yX1_addGiven cX1_addGiven 4 none : Cond) ∈ Om := ot_6 _ (List.mem_of_getElem? (i := 3) rfl)
theorem om_148 : (.methodLink RX1 61 yX1_addGiven : Cond) ∈ Om := ot_6 _ (List.mem_of_getElem? (i := 4) rfl)
theorem om_149 : (.instanceMethod yX1_addGiven : Cond) ∈ Om := ot_6 _ (List.mem_of_getElem? (i := 5) rfl)
theorem om_150 : (.selects RX1 yX1_addGiven yX1_addGiven : Cond) ∈ Om := ot_6 _ (List.mem_of_getElem? (i := 6) rfl)
theorem om_151 : (.code yX10_isNamed cX10_isNamed 6 (some .boolean) : Cond) ∈ Om := ot_6 _ (List.mem_of_getElem? (i := 7) rfl)
theorem om_152 : (.methodLink RX1 108 yX10_isNamed : Cond) ∈ Om := ot_6 _ (List.mem_of_getElem? (i := 8) rfl)
theorem om_153 : (.instanceMethod yX10_isNamed : Cond) ∈ Om := ot_6 _ (List.mem_of_getElem? (i := 9) rfl)
theorem om_154 : (.selects RX10 yX10_isNamed yX10_isNamed : Cond) ∈ Om := ot_6 _ (List.mem_of_getElem? (i := 10) rfl)
theorem om_155 : (.code yX1_findClasses cX1_findClasses 6 none : Cond) ∈ Om := ot_6 _ (List.mem_of_getElem? (i := 11) rfl)
theorem om_156 : (.methodLink RX1 65 yX1_findClasses : Cond) ∈ Om := ot_6 _ (List.mem_of_getElem? (i := 12) rfl)
theorem om_157 : (.instanceMethod yX1_findClasses : Cond) ∈ Om := ot_6 _ (List.mem_of_getElem? (i := 13) rfl)
theorem om_158 : (.selects RX1 yX1_findClasses yX1_findClasses : Cond) ∈ Om := ot_6 _ (List.mem_of_getElem? (i := 14) rfl)
theorem om_159 : (.constant RX1 72 (1000000) : Cond) ∈ Om := ot_6 _ (List.mem_of_getElem? (i := 15) rfl)
theorem om_160 : (.methodLink RX1 136 Lib.Math.max.name : Cond) ∈ Om := ot_6 _ (List.mem_of_getElem? (i := 16) rfl)
theorem om_161 : (.code yX1_candidates cX1_candidates 10 (some .long) : Cond) ∈ Om := ot_6 _ (List.mem_of_getElem? (i := 17) rfl)
theorem om_162 : (.methodLink RX1 114 yX1_candidates : Cond) ∈ Om := ot_6 _ (List.mem_of_getElem? (i := 18) rfl)
theorem om_163 : (.instanceMethod yX1_candidates : Cond) ∈ Om := ot_6 _ (List.mem_of_getElem? (i := 19) rfl)
theorem om_164 : (.selects RX1 yX1_candidates yX1_candidates : Cond) ∈ Om := ot_6 _ (List.mem_of_getElem? (i := 20) rfl)
theorem om_165 : (.code yX1_tryThings cX1_tryThings 8 none : Cond) ∈ Om := ot_6 _ (List.mem_of_getElem? (i := 21) rfl)
theorem om_166 : (.methodLink RX1 76 yX1_tryThings : Cond) ∈ Om := ot_6 _ (List.mem_of_getElem? (i := 22) rfl)
theorem om_167 : (.instanceMethod yX1_tryThings : Cond) ∈ Om := ot_6 _ (List.mem_of_getElem? (i := 23) rfl)
theorem om_168 : (.selects RX1 yX1_tryThings yX1_tryThings : Cond) ∈ Om := ot_7 _ (List.mem_of_getElem? (i := 0) rfl)
theorem om_169 : (.constantLong RJ13 314 (6148914691236517205) : Cond) ∈ Om := ot_7 _ (List.mem_of_getElem? (i := 1) rfl)
theorem om_170 : (.constantLong RJ13 316 (3689348814741910323) : Cond) ∈ Om := ot_7 _ (List.mem_of_getElem? (i := 2) rfl)
theorem om_171 : (.constantLong RJ13 318 (1085102592571150095) : Cond) ∈ Om := ot_7 _ (List.mem_of_getElem? (i := 3) rfl)
theorem om_172 : (.code yJ13_bitCount_95d88 cJ13_bitCount_95d88 2 (some .int) : Cond) ∈ Om := ot_7 _ (List.mem_of_getElem? (i := 4) rfl)
theorem om_173 : (.methodLink RX1 139 yJ13_bitCount_95d88 : Cond) ∈ Om := ot_7 _ (List.mem_of_getElem? (i := 5) rfl)
theorem om_174 : (.static yJ13_bitCount_95d88 : Cond) ∈ Om := ot_7 _ (List.mem_of_getElem? (i := 6) rfl)
theorem om_175 : (.initialized RJ13 : Cond) ∈ Om := ot_7 _ (List.mem_of_getElem? (i := 7) rfl)
theorem om_176 : (.methodLink RX2 51 yX10_slotsOf : Cond) ∈ Om := ot_7 _ (List.mem_of_getElem? (i := 8) rfl)
theorem om_177 : (.code yX2_isThere cX2_isThere 2 (some .boolean) : Cond) ∈ Om := ot_7 _ (List.mem_of_getElem? (i := 9) rfl)
theorem om_178 : (.methodLink RX2 55 yX2_isThere : Cond) ∈ Om := ot_7 _ (List.mem_of_getElem? (i := 10) rfl)
theorem om_179 : (.instanceMethod yX2_isThere : Cond) ∈ Om := ot_7 _ (List.mem_of_getElem? (i := 11) rfl)
theorem om_180 : (.selects RX2 yX2_isThere yX2_isThere : Cond) ∈ Om := ot_7 _ (List.mem_of_getElem? (i := 12) rfl)
theorem om_181 : (.initialized RX2 : Cond) ∈ Om := ot_7 _ (List.mem_of_getElem? (i := 13) rfl)
theorem om_182 : (.code yX2_slotsOf cX2_slotsOf 2 (some .int) : Cond) ∈ Om := ot_7 _ (List.mem_of_getElem? (i := 14) rfl)
theorem om_183 : (.methodLink RX2 59 yX2_slotsOf : Cond) ∈ Om := ot_7 _ (List.mem_of_getElem? (i := 15) rfl)
theorem om_184 : (.instanceMethod yX2_slotsOf : Cond) ∈ Om := ot_7 _ (List.mem_of_getElem? (i := 16) rfl)
theorem om_185 : (.selects RX2 yX2_slotsOf yX2_slotsOf : Cond) ∈ Om := ot_7 _ (List.mem_of_getElem? (i := 17) rfl)
theorem om_186 : (.constantLong RX2 69 (-1) : Cond) ∈ Om := ot_7 _ (List.mem_of_getElem? (i := 18) rfl)
theorem om_187 : (.methodLink RX2 71 yX10_fits : Cond) ∈ Om := ot_7 _ (List.mem_of_getElem? (i := 19) rfl)
theorem om_188 : (.methodLink RX2 65 yX10_isNumber : Cond) ∈ Om := ot_7 _ (List.mem_of_getElem? (i := 20) rfl)
theorem om_189 : (.code yX10_use cX10_use 2 none : Cond) ∈ Om := ot_7 _ (List.mem_of_getElem? (i := 21) rfl)
theorem om_190 : (.methodLink RX2 78 yX10_use : Cond) ∈ Om := ot_7 _ (List.mem_of_getElem? (i := 22) rfl)
theorem om_191 : (.instanceMethod yX10_use : Cond) ∈ Om := ot_7 _ (List.mem_of_getElem? (i := 23) rfl)
theorem om_192 : (.selects RX10 yX10_use yX10_use : Cond) ∈ Om := ot_8 _ (List.mem_of_getElem? (i := 0) rfl)
theorem om_193 : (.methodLink RX2 82 yX10_kindAt : Cond) ∈ Om := ot_8 _ (List.mem_of_getElem? (i := 1) rfl)
theorem om_194 : (.constantLong RX10 96 (-1) : Cond) ∈ Om := ot_8 _ (List.mem_of_getElem? (i := 2) rfl)
theorem om_195 : (.code yX10_firstValue cX10_firstValue 1 (some .long) : Cond) ∈ Om := ot_8 _ (List.mem_of_getElem? (i := 3) rfl)
theorem om_196 : (.methodLink RX2 85 yX10_firstValue : Cond) ∈ Om := ot_8 _ (List.mem_of_getElem? (i := 4) rfl)
theorem om_197 : (.static yX10_firstValue : Cond) ∈ Om := ot_8 _ (List.mem_of_getElem? (i := 5) rfl)
theorem om_198 : (.code yX10_ownFields cX10_ownFields 1 (some .int) : Cond) ∈ Om := ot_8 _ (List.mem_of_getElem? (i := 6) rfl)
theorem om_199 : (.methodLink RX2 99 yX10_ownFields : Cond) ∈ Om := ot_8 _ (List.mem_of_getElem? (i := 7) rfl)
theorem om_200 : (.instanceMethod yX10_ownFields : Cond) ∈ Om := ot_8 _ (List.mem_of_getElem? (i := 8) rfl)
theorem om_201 : (.selects RX10 yX10_ownFields yX10_ownFields : Cond) ∈ Om := ot_8 _ (List.mem_of_getElem? (i := 9) rfl)
theorem om_202 : (.code yX10_isLinkStatic cX10_isLinkStatic 2 (some .boolean) : Cond) ∈ Om := ot_8 _ (List.mem_of_getElem? (i := 10) rfl)
theorem om_203 : (.methodLink RX2 103 yX10_isLinkStatic : Cond) ∈ Om := ot_8 _ (List.mem_of_getElem? (i := 11) rfl)
theorem om_204 : (.instanceMethod yX10_isLinkStatic : Cond) ∈ Om := ot_8 _ (List.mem_of_getElem? (i := 12) rfl)
theorem om_205 : (.selects RX10 yX10_isLinkStatic yX10_isLinkStatic : Cond) ∈ Om := ot_8 _ (List.mem_of_getElem? (i := 13) rfl)
theorem om_206 : (.code yX2_fitsSwapped cX2_fitsSwapped 6 (some .boolean) : Cond) ∈ Om := ot_8 _ (List.mem_of_getElem? (i := 14) rfl)
theorem om_207 : (.methodLink RX2 95 yX2_fitsSwapped : Cond) ∈ Om := ot_8 _ (List.mem_of_getElem? (i := 15) rfl)
theorem om_208 : (.instanceMethod yX2_fitsSwapped : Cond) ∈ Om := ot_8 _ (List.mem_of_getElem? (i := 16) rfl)
theorem om_209 : (.selects RX2 yX2_fitsSwapped yX2_fitsSwapped : Cond) ∈ Om := ot_8 _ (List.mem_of_getElem? (i := 17) rfl)
theorem om_210 : (.methodLink RX2 92 yX10_linkAt : Cond) ∈ Om := ot_8 _ (List.mem_of_getElem? (i := 18) rfl)
theorem om_211 : (.code yJ7_rangeCheck_23922 cJ7_rangeCheck_23922 3 none : Cond) ∈ Om := ot_8 _ (List.mem_of_getElem? (i := 19) rfl)
theorem om_212 : (.methodLink RJ7 13 yJ7_rangeCheck_23922 : Cond) ∈ Om := ot_8 _ (List.mem_of_getElem? (i := 20) rfl)
theorem om_213 : (.static yJ7_rangeCheck_23922 : Cond) ∈ Om := ot_8 _ (List.mem_of_getElem? (i := 21) rfl)
theorem om_214 : (.code yJ7_fill_fda19 cJ7_fill_fda19 5 none : Cond) ∈ Om := ot_8 _ (List.mem_of_getElem? (i := 22) rfl)
theorem om_215 : (.methodLink RX2 109 yJ7_fill_fda19 : Cond) ∈ Om := ot_8 _ (List.mem_of_getElem? (i := 23) rfl)
theorem om_216 : (.static yJ7_fill_fda19 : Cond) ∈ Om := ot_9 _ (List.mem_of_getElem? (i := 0) rfl)
theorem om_217 : (.code yX2_meet cX2_meet 4 (some .int) : Cond) ∈ Om := ot_9 _ (List.mem_of_getElem? (i := 1) rfl)
theorem om_218 : (.methodLink RX2 115 yX2_meet : Cond) ∈ Om := ot_9 _ (List.mem_of_getElem? (i := 2) rfl)
theorem om_219 : (.instanceMethod yX2_meet : Cond) ∈ Om := ot_9 _ (List.mem_of_getElem? (i := 3) rfl)
theorem om_220 : (.selects RX2 yX2_meet yX2_meet : Cond) ∈ Om := ot_9 _ (List.mem_of_getElem? (i := 4) rfl)
theorem om_221 : (.code yX2_clearMarks cX2_clearMarks 1 none : Cond) ∈ Om := ot_9 _ (List.mem_of_getElem? (i := 5) rfl)
theorem om_222 : (.methodLink RX2 119 yX2_clearMarks : Cond) ∈ Om := ot_9 _ (List.mem_of_getElem? (i := 6) rfl)
theorem om_223 : (.instanceMethod yX2_clearMarks : Cond) ∈ Om := ot_9 _ (List.mem_of_getElem? (i := 7) rfl)
theorem om_224 : (.selects RX2 yX2_clearMarks yX2_clearMarks : Cond) ∈ Om := ot_9 _ (List.mem_of_getElem? (i := 8) rfl)
theorem om_225 : (.code yX2_meetRoots cX2_meetRoots 3 (some .int) : Cond) ∈ Om := ot_9 _ (List.mem_of_getElem? (i := 9) rfl)
theorem om_226 : (.methodLink RX2 122 yX2_meetRoots : Cond) ∈ Om := ot_9 _ (List.mem_of_getElem? (i := 10) rfl)
theorem om_227 : (.instanceMethod yX2_meetRoots : Cond) ∈ Om := ot_9 _ (List.mem_of_getElem? (i := 11) rfl)
theorem om_228 : (.selects RX2 yX2_meetRoots yX2_meetRoots : Cond) ∈ Om := ot_9 _ (List.mem_of_getElem? (i := 12) rfl)
theorem om_229 : (.code yX2_moveSlots cX2_moveSlots 5 none : Cond) ∈ Om := ot_9 _ (List.mem_of_getElem? (i := 13) rfl)
theorem om_230 : (.methodLink RX2 128 yX2_moveSlots : Cond) ∈ Om := ot_9 _ (List.mem_of_getElem? (i := 14) rfl)
theorem om_231 : (.instanceMethod yX2_moveSlots : Cond) ∈ Om := ot_9 _ (List.mem_of_getElem? (i := 15) rfl)
theorem om_232 : (.selects RX2 yX2_moveSlots yX2_moveSlots : Cond) ∈ Om := ot_9 _ (List.mem_of_getElem? (i := 16) rfl)
theorem om_233 : (.code yX2_meetLinks cX2_meetLinks 6 (some .int) : Cond) ∈ Om := ot_9 _ (List.mem_of_getElem? (i := 17) rfl)
theorem om_234 : (.methodLink RX2 125 yX2_meetLinks : Cond) ∈ Om := ot_9 _ (List.mem_of_getElem? (i := 18) rfl)
theorem om_235 : (.instanceMethod yX2_meetLinks : Cond) ∈ Om := ot_9 _ (List.mem_of_getElem? (i := 19) rfl)
theorem om_236 : (.selects RX2 yX2_meetLinks yX2_meetLinks : Cond) ∈ Om := ot_9 _ (List.mem_of_getElem? (i := 20) rfl)
theorem om_237 : (.code yX10_isApart cX10_isApart 4 (some .boolean) : Cond) ∈ Om := ot_9 _ (List.mem_of_getElem? (i := 21) rfl)
theorem om_238 : (.methodLink RX2 144 yX10_isApart : Cond) ∈ Om := ot_9 _ (List.mem_of_getElem? (i := 22) rfl)
theorem om_239 : (.instanceMethod yX10_isApart : Cond) ∈ Om := ot_9 _ (List.mem_of_getElem? (i := 23) rfl)
theorem om_240 : (.selects RX10 yX10_isApart yX10_isApart : Cond) ∈ Om := ot_10 _ (List.mem_of_getElem? (i := 0) rfl)
theorem om_241 : (.code yX2_walkToCopy cX2_walkToCopy 7 (some .int) : Cond) ∈ Om := ot_10 _ (List.mem_of_getElem? (i := 1) rfl)
theorem om_242 : (.methodLink RX2 132 yX2_walkToCopy : Cond) ∈ Om := ot_10 _ (List.mem_of_getElem? (i := 2) rfl)
theorem om_243 : (.instanceMethod yX2_walkToCopy : Cond) ∈ Om := ot_10 _ (List.mem_of_getElem? (i := 3) rfl)
theorem om_244 : (.selects RX2 yX2_walkToCopy yX2_walkToCopy : Cond) ∈ Om := ot_10 _ (List.mem_of_getElem? (i := 4) rfl)
theorem om_245 : (.code yX2_hasRoom cX2_hasRoom 3 (some .boolean) : Cond) ∈ Om := ot_10 _ (List.mem_of_getElem? (i := 5) rfl)
theorem om_246 : (.methodLink RX2 135 yX2_hasRoom : Cond) ∈ Om := ot_10 _ (List.mem_of_getElem? (i := 6) rfl)
theorem om_247 : (.instanceMethod yX2_hasRoom : Cond) ∈ Om := ot_10 _ (List.mem_of_getElem? (i := 7) rfl)
theorem om_248 : (.selects RX2 yX2_hasRoom yX2_hasRoom : Cond) ∈ Om := ot_10 _ (List.mem_of_getElem? (i := 8) rfl)
theorem om_249 : (.code yX2_copySlots cX2_copySlots 9 none : Cond) ∈ Om := ot_10 _ (List.mem_of_getElem? (i := 9) rfl)
theorem om_250 : (.methodLink RX2 141 yX2_copySlots : Cond) ∈ Om := ot_10 _ (List.mem_of_getElem? (i := 10) rfl)
theorem om_251 : (.instanceMethod yX2_copySlots : Cond) ∈ Om := ot_10 _ (List.mem_of_getElem? (i := 11) rfl)
theorem om_252 : (.selects RX2 yX2_copySlots yX2_copySlots : Cond) ∈ Om := ot_10 _ (List.mem_of_getElem? (i := 12) rfl)
theorem om_253 : (.code yX2_create cX2_create 7 (some .int) : Cond) ∈ Om := ot_10 _ (List.mem_of_getElem? (i := 13) rfl)
theorem om_254 : (.methodLink RX2 138 yX2_create : Cond) ∈ Om := ot_10 _ (List.mem_of_getElem? (i := 14) rfl)
theorem om_255 : (.instanceMethod yX2_create : Cond) ∈ Om := ot_10 _ (List.mem_of_getElem? (i := 15) rfl)
theorem om_256 : (.selects RX2 yX2_create yX2_create : Cond) ∈ Om := ot_10 _ (List.mem_of_getElem? (i := 16) rfl)
theorem om_257 : (.code yX3_remember cX3_remember 5 none : Cond) ∈ Om := ot_10 _ (List.mem_of_getElem? (i := 17) rfl)
theorem om_258 : (.methodLink RX3 49 yX3_remember : Cond) ∈ Om := ot_10 _ (List.mem_of_getElem? (i := 18) rfl)
theorem om_259 : (.instanceMethod yX3_remember : Cond) ∈ Om := ot_10 _ (List.mem_of_getElem? (i := 19) rfl)
theorem om_260 : (.selects RX3 yX3_remember yX3_remember : Cond) ∈ Om := ot_10 _ (List.mem_of_getElem? (i := 20) rfl)
theorem om_261 : (.initialized RX3 : Cond) ∈ Om := ot_10 _ (List.mem_of_getElem? (i := 21) rfl)
theorem om_262 : (.methodLink RX3 125 yX10_firstValue : Cond) ∈ Om := ot_10 _ (List.mem_of_getElem? (i := 22) rfl)
theorem om_263 : (.constantLong RX3 129 (-1) : Cond) ∈ Om := ot_10 _ (List.mem_of_getElem? (i := 23) rfl)
theorem om_264 : (.code yX3_isCase cX3_isCase 9 (some .boolean) : Cond) ∈ Om := ot_11 _ (List.mem_of_getElem? (i := 0) rfl)
theorem om_265 : (.methodLink RX3 77 yX3_isCase : Cond) ∈ Om := ot_11 _ (List.mem_of_getElem? (i := 1) rfl)
theorem om_266 : (.instanceMethod yX3_isCase : Cond) ∈ Om := ot_11 _ (List.mem_of_getElem? (i := 2) rfl)
theorem om_267 : (.selects RX3 yX3_isCase yX3_isCase : Cond) ∈ Om := ot_11 _ (List.mem_of_getElem? (i := 3) rfl)
theorem om_268 : (.code yX3_addRow cX3_addRow 9 none : Cond) ∈ Om := ot_11 _ (List.mem_of_getElem? (i := 4) rfl)
theorem om_269 : (.methodLink RX3 81 yX3_addRow : Cond) ∈ Om := ot_11 _ (List.mem_of_getElem? (i := 5) rfl)
theorem om_270 : (.instanceMethod yX3_addRow : Cond) ∈ Om := ot_11 _ (List.mem_of_getElem? (i := 6) rfl)
theorem om_271 : (.selects RX3 yX3_addRow yX3_addRow : Cond) ∈ Om := ot_11 _ (List.mem_of_getElem? (i := 7) rfl)
theorem om_272 : (.methodLink RX3 69 yX10_isArray : Cond) ∈ Om := ot_11 _ (List.mem_of_getElem? (i := 8) rfl)
theorem om_273 : (.methodLink RX3 73 yX10_isHeir : Cond) ∈ Om := ot_11 _ (List.mem_of_getElem? (i := 9) rfl)
theorem om_274 : (.methodLink RX3 94 yX2_slotsOf : Cond) ∈ Om := ot_11 _ (List.mem_of_getElem? (i := 10) rfl)
theorem om_275 : (.code yX3_writeSlot cX3_writeSlot 12 (some .int) : Cond) ∈ Om := ot_11 _ (List.mem_of_getElem? (i := 11) rfl)
theorem om_276 : (.methodLink RX3 101 yX3_writeSlot : Cond) ∈ Om := ot_11 _ (List.mem_of_getElem? (i := 12) rfl)
theorem om_277 : (.instanceMethod yX3_writeSlot : Cond) ∈ Om := ot_11 _ (List.mem_of_getElem? (i := 13) rfl)
theorem om_278 : (.selects RX3 yX3_writeSlot yX3_writeSlot : Cond) ∈ Om := ot_11 _ (List.mem_of_getElem? (i := 14) rfl)
theorem om_279 : (.methodLink RX3 105 yX10_ownFields : Cond) ∈ Om := ot_11 _ (List.mem_of_getElem? (i := 15) rfl)
theorem om_280 : (.methodLink RX3 109 yX10_isLinkStatic : Cond) ∈ Om := ot_11 _ (List.mem_of_getElem? (i := 16) rfl)
theorem om_281 : (.code yX3_writeStatic cX3_writeStatic 8 (some .int) : Cond) ∈ Om := ot_11 _ (List.mem_of_getElem? (i := 17) rfl)
theorem om_282 : (.methodLink RX3 112 yX3_writeStatic : Cond) ∈ Om := ot_11 _ (List.mem_of_getElem? (i := 18) rfl)
theorem om_283 : (.instanceMethod yX3_writeStatic : Cond) ∈ Om := ot_11 _ (List.mem_of_getElem? (i := 19) rfl)
theorem om_284 : (.selects RX3 yX3_writeStatic yX3_writeStatic : Cond) ∈ Om := ot_11 _ (List.mem_of_getElem? (i := 20) rfl)
theorem om_285 : (.code yX4_isTrue cX4_isTrue 2 (some .boolean) : Cond) ∈ Om := ot_11 _ (List.mem_of_getElem? (i := 21) rfl)
theorem om_286 : (.methodLink RX4 71 yX4_isTrue : Cond) ∈ Om := ot_11 _ (List.mem_of_getElem? (i := 22) rfl)
theorem om_287 : (.instanceMethod yX4_isTrue : Cond) ∈ Om := ot_11 _ (List.mem_of_getElem? (i := 23) rfl)
theorem om_288 : (.selects RX4 yX4_isTrue yX4_isTrue : Cond) ∈ Om := ot_12 _ (List.mem_of_getElem? (i := 0) rfl)
theorem om_289 : (.initialized RX4 : Cond) ∈ Om := ot_12 _ (List.mem_of_getElem? (i := 1) rfl)
theorem om_290 : (.constant RX4 106 (1000000) : Cond) ∈ Om := ot_12 _ (List.mem_of_getElem? (i := 2) rfl)
theorem om_291 : (.code yX4_push cX4_push 4 none : Cond) ∈ Om := ot_12 _ (List.mem_of_getElem? (i := 3) rfl)
theorem om_292 : (.methodLink RX4 139 yX4_push : Cond) ∈ Om := ot_12 _ (List.mem_of_getElem? (i := 4) rfl)
theorem om_293 : (.instanceMethod yX4_push : Cond) ∈ Om := ot_12 _ (List.mem_of_getElem? (i := 5) rfl)
theorem om_294 : (.selects RX4 yX4_push yX4_push : Cond) ∈ Om := ot_12 _ (List.mem_of_getElem? (i := 6) rfl)
theorem om_295 : (.code yX4_decide cX4_decide 4 (some .int) : Cond) ∈ Om := ot_12 _ (List.mem_of_getElem? (i := 7) rfl)
theorem om_296 : (.methodLink RX4 248 yX4_decide : Cond) ∈ Om := ot_12 _ (List.mem_of_getElem? (i := 8) rfl)
theorem om_297 : (.instanceMethod yX4_decide : Cond) ∈ Om := ot_12 _ (List.mem_of_getElem? (i := 9) rfl)
theorem om_298 : (.selects RX4 yX4_decide yX4_decide : Cond) ∈ Om := ot_12 _ (List.mem_of_getElem? (i := 10) rfl)
theorem om_299 : (.code yX4_giveAt cX4_giveAt 4 (some .int) : Cond) ∈ Om := ot_12 _ (List.mem_of_getElem? (i := 11) rfl)
theorem om_300 : (.methodLink RX4 242 yX4_giveAt : Cond) ∈ Om := ot_12 _ (List.mem_of_getElem? (i := 12) rfl)
theorem om_301 : (.instanceMethod yX4_giveAt : Cond) ∈ Om := ot_12 _ (List.mem_of_getElem? (i := 13) rfl)
theorem om_302 : (.selects RX4 yX4_giveAt yX4_giveAt : Cond) ∈ Om := ot_12 _ (List.mem_of_getElem? (i := 14) rfl)
theorem om_303 : (.code yX4_nextThing cX4_nextThing 4 (some .int) : Cond) ∈ Om := ot_12 _ (List.mem_of_getElem? (i := 15) rfl)
theorem om_304 : (.methodLink RX4 269 yX4_nextThing : Cond) ∈ Om := ot_12 _ (List.mem_of_getElem? (i := 16) rfl)
theorem om_305 : (.instanceMethod yX4_nextThing : Cond) ∈ Om := ot_12 _ (List.mem_of_getElem? (i := 17) rfl)
theorem om_306 : (.selects RX4 yX4_nextThing yX4_nextThing : Cond) ∈ Om := ot_12 _ (List.mem_of_getElem? (i := 18) rfl)
theorem om_307 : (.constantLong RX4 198 (-1) : Cond) ∈ Om := ot_12 _ (List.mem_of_getElem? (i := 19) rfl)
theorem om_308 : (.code yX4_addReached cX4_addReached 3 none : Cond) ∈ Om := ot_12 _ (List.mem_of_getElem? (i := 20) rfl)
theorem om_309 : (.methodLink RX4 239 yX4_addReached : Cond) ∈ Om := ot_12 _ (List.mem_of_getElem? (i := 21) rfl)
theorem om_310 : (.instanceMethod yX4_addReached : Cond) ∈ Om := ot_12 _ (List.mem_of_getElem? (i := 22) rfl)
theorem om_311 : (.selects RX4 yX4_addReached yX4_addReached : Cond) ∈ Om := ot_12 _ (List.mem_of_getElem? (i := 23) rfl)
theorem om_312 : (.code yX4_nextReached cX4_nextReached 4 (some .int) : Cond) ∈ Om := ot_13 _ (List.mem_of_getElem? (i := 0) rfl)
theorem om_313 : (.methodLink RX4 266 yX4_nextReached : Cond) ∈ Om := ot_13 _ (List.mem_of_getElem? (i := 1) rfl)
theorem om_314 : (.instanceMethod yX4_nextReached : Cond) ∈ Om := ot_13 _ (List.mem_of_getElem? (i := 2) rfl)
theorem om_315 : (.selects RX4 yX4_nextReached yX4_nextReached : Cond) ∈ Om := ot_13 _ (List.mem_of_getElem? (i := 3) rfl)
theorem om_316 : (.code yX4_giveNext cX4_giveNext 4 (some .int) : Cond) ∈ Om := ot_13 _ (List.mem_of_getElem? (i := 4) rfl)
theorem om_317 : (.methodLink RX4 251 yX4_giveNext : Cond) ∈ Om := ot_13 _ (List.mem_of_getElem? (i := 5) rfl)
theorem om_318 : (.instanceMethod yX4_giveNext : Cond) ∈ Om := ot_13 _ (List.mem_of_getElem? (i := 6) rfl)
theorem om_319 : (.selects RX4 yX4_giveNext yX4_giveNext : Cond) ∈ Om := ot_13 _ (List.mem_of_getElem? (i := 7) rfl)
theorem om_320 : (.methodLink RX4 221 Lib.Math.max.name : Cond) ∈ Om := ot_13 _ (List.mem_of_getElem? (i := 8) rfl)
theorem om_321 : (.code yX4_addNumber cX4_addNumber 5 none : Cond) ∈ Om := ot_13 _ (List.mem_of_getElem? (i := 9) rfl)
theorem om_322 : (.methodLink RX4 274 yX4_addNumber : Cond) ∈ Om := ot_13 _ (List.mem_of_getElem? (i := 10) rfl)
theorem om_323 : (.instanceMethod yX4_addNumber : Cond) ∈ Om := ot_13 _ (List.mem_of_getElem? (i := 11) rfl)
theorem om_324 : (.selects RX4 yX4_addNumber yX4_addNumber : Cond) ∈ Om := ot_13 _ (List.mem_of_getElem? (i := 12) rfl)
theorem om_325 : (.code yX4_addUp cX4_addUp 4 (some .int) : Cond) ∈ Om := ot_13 _ (List.mem_of_getElem? (i := 13) rfl)
theorem om_326 : (.methodLink RX4 254 yX4_addUp : Cond) ∈ Om := ot_13 _ (List.mem_of_getElem? (i := 14) rfl)
theorem om_327 : (.instanceMethod yX4_addUp : Cond) ∈ Om := ot_13 _ (List.mem_of_getElem? (i := 15) rfl)
theorem om_328 : (.selects RX4 yX4_addUp yX4_addUp : Cond) ∈ Om := ot_13 _ (List.mem_of_getElem? (i := 16) rfl)
theorem om_329 : (.code yX4_pushTruth cX4_pushTruth 2 none : Cond) ∈ Om := ot_13 _ (List.mem_of_getElem? (i := 17) rfl)
theorem om_330 : (.methodLink RX4 148 yX4_pushTruth : Cond) ∈ Om := ot_13 _ (List.mem_of_getElem? (i := 18) rfl)
theorem om_331 : (.instanceMethod yX4_pushTruth : Cond) ∈ Om := ot_13 _ (List.mem_of_getElem? (i := 19) rfl)
theorem om_332 : (.selects RX4 yX4_pushTruth yX4_pushTruth : Cond) ∈ Om := ot_13 _ (List.mem_of_getElem? (i := 20) rfl)
theorem om_333 : (.code yX4_finish cX4_finish 4 none : Cond) ∈ Om := ot_13 _ (List.mem_of_getElem? (i := 21) rfl)
theorem om_334 : (.methodLink RX4 257 yX4_finish : Cond) ∈ Om := ot_13 _ (List.mem_of_getElem? (i := 22) rfl)
theorem om_335 : (.instanceMethod yX4_finish : Cond) ∈ Om := ot_13 _ (List.mem_of_getElem? (i := 23) rfl)
theorem om_336 : (.selects RX4 yX4_finish yX4_finish : Cond) ∈ Om := ot_14 _ (List.mem_of_getElem? (i := 0) rfl)
theorem om_337 : (.code yX4_addRow cX4_addRow 2 none : Cond) ∈ Om := ot_14 _ (List.mem_of_getElem? (i := 1) rfl)
theorem om_338 : (.methodLink RX4 263 yX4_addRow : Cond) ∈ Om := ot_14 _ (List.mem_of_getElem? (i := 2) rfl)
theorem om_339 : (.instanceMethod yX4_addRow : Cond) ∈ Om := ot_14 _ (List.mem_of_getElem? (i := 3) rfl)
theorem om_340 : (.selects RX4 yX4_addRow yX4_addRow : Cond) ∈ Om := ot_14 _ (List.mem_of_getElem? (i := 4) rfl)
theorem om_341 : (.code yX4_jump cX4_jump 3 (some .int) : Cond) ∈ Om := ot_14 _ (List.mem_of_getElem? (i := 5) rfl)
theorem om_342 : (.methodLink RX4 135 yX4_jump : Cond) ∈ Om := ot_14 _ (List.mem_of_getElem? (i := 6) rfl)
theorem om_343 : (.instanceMethod yX4_jump : Cond) ∈ Om := ot_14 _ (List.mem_of_getElem? (i := 7) rfl)
theorem om_344 : (.selects RX4 yX4_jump yX4_jump : Cond) ∈ Om := ot_14 _ (List.mem_of_getElem? (i := 8) rfl)
theorem om_345 : (.methodLink RX4 180 yX10_isNamed : Cond) ∈ Om := ot_14 _ (List.mem_of_getElem? (i := 9) rfl)
theorem om_346 : (.code yX4_classesNamed cX4_classesNamed 6 (some .int) : Cond) ∈ Om := ot_14 _ (List.mem_of_getElem? (i := 10) rfl)
theorem om_347 : (.methodLink RX4 217 yX4_classesNamed : Cond) ∈ Om := ot_14 _ (List.mem_of_getElem? (i := 11) rfl)
theorem om_348 : (.instanceMethod yX4_classesNamed : Cond) ∈ Om := ot_14 _ (List.mem_of_getElem? (i := 12) rfl)
theorem om_349 : (.selects RX4 yX4_classesNamed yX4_classesNamed : Cond) ∈ Om := ot_14 _ (List.mem_of_getElem? (i := 13) rfl)
theorem om_350 : (.code yX4_beginFrom cX4_beginFrom 4 none : Cond) ∈ Om := ot_14 _ (List.mem_of_getElem? (i := 14) rfl)
theorem om_351 : (.methodLink RX4 226 yX4_beginFrom : Cond) ∈ Om := ot_14 _ (List.mem_of_getElem? (i := 15) rfl)
theorem om_352 : (.instanceMethod yX4_beginFrom : Cond) ∈ Om := ot_14 _ (List.mem_of_getElem? (i := 16) rfl)
theorem om_353 : (.selects RX4 yX4_beginFrom yX4_beginFrom : Cond) ∈ Om := ot_14 _ (List.mem_of_getElem? (i := 17) rfl)
theorem om_354 : (.code yX4_beginSet cX4_beginSet 4 none : Cond) ∈ Om := ot_14 _ (List.mem_of_getElem? (i := 18) rfl)
theorem om_355 : (.methodLink RX4 132 yX4_beginSet : Cond) ∈ Om := ot_14 _ (List.mem_of_getElem? (i := 19) rfl)
theorem om_356 : (.instanceMethod yX4_beginSet : Cond) ∈ Om := ot_14 _ (List.mem_of_getElem? (i := 20) rfl)
theorem om_357 : (.selects RX4 yX4_beginSet yX4_beginSet : Cond) ∈ Om := ot_14 _ (List.mem_of_getElem? (i := 21) rfl)
theorem om_358 : (.code yX4_isLink cX4_isLink 1 (some .boolean) : Cond) ∈ Om := ot_14 _ (List.mem_of_getElem? (i := 22) rfl)
theorem om_359 : (.methodLink RX4 211 yX4_isLink : Cond) ∈ Om := ot_14 _ (List.mem_of_getElem? (i := 23) rfl)
theorem om_360 : (.static yX4_isLink : Cond) ∈ Om := ot_15 _ (List.mem_of_getElem? (i := 0) rfl)
theorem om_361 : (.code yX4_compare cX4_compare 6 none : Cond) ∈ Om := ot_15 _ (List.mem_of_getElem? (i := 1) rfl)
theorem om_362 : (.methodLink RX4 200 yX4_compare : Cond) ∈ Om := ot_15 _ (List.mem_of_getElem? (i := 2) rfl)
theorem om_363 : (.instanceMethod yX4_compare : Cond) ∈ Om := ot_15 _ (List.mem_of_getElem? (i := 3) rfl)
theorem om_364 : (.selects RX4 yX4_compare yX4_compare : Cond) ∈ Om := ot_15 _ (List.mem_of_getElem? (i := 4) rfl)
theorem om_365 : (.code yX4_divide cX4_divide 6 none : Cond) ∈ Om := ot_15 _ (List.mem_of_getElem? (i := 5) rfl)
theorem om_366 : (.methodLink RX4 214 yX4_divide : Cond) ∈ Om := ot_15 _ (List.mem_of_getElem? (i := 6) rfl)
theorem om_367 : (.instanceMethod yX4_divide : Cond) ∈ Om := ot_15 _ (List.mem_of_getElem? (i := 7) rfl)
theorem om_368 : (.selects RX4 yX4_divide yX4_divide : Cond) ∈ Om := ot_15 _ (List.mem_of_getElem? (i := 8) rfl)
theorem om_369 : (.code yX4_reckon cX4_reckon 6 none : Cond) ∈ Om := ot_15 _ (List.mem_of_getElem? (i := 9) rfl)
theorem om_370 : (.methodLink RX4 207 yX4_reckon : Cond) ∈ Om := ot_15 _ (List.mem_of_getElem? (i := 10) rfl)
theorem om_371 : (.instanceMethod yX4_reckon : Cond) ∈ Om := ot_15 _ (List.mem_of_getElem? (i := 11) rfl)
theorem om_372 : (.selects RX4 yX4_reckon yX4_reckon : Cond) ∈ Om := ot_15 _ (List.mem_of_getElem? (i := 12) rfl)
theorem om_373 : (.methodLink RX4 163 yX10_isArray : Cond) ∈ Om := ot_15 _ (List.mem_of_getElem? (i := 13) rfl)
theorem om_374 : (.code yX4_pushSlot cX4_pushSlot 4 none : Cond) ∈ Om := ot_15 _ (List.mem_of_getElem? (i := 14) rfl)
theorem om_375 : (.methodLink RX4 188 yX4_pushSlot : Cond) ∈ Om := ot_15 _ (List.mem_of_getElem? (i := 15) rfl)
theorem om_376 : (.instanceMethod yX4_pushSlot : Cond) ∈ Om := ot_15 _ (List.mem_of_getElem? (i := 16) rfl)
theorem om_377 : (.selects RX4 yX4_pushSlot yX4_pushSlot : Cond) ∈ Om := ot_15 _ (List.mem_of_getElem? (i := 17) rfl)
theorem om_378 : (.code yX4_pushElement cX4_pushElement 5 none : Cond) ∈ Om := ot_15 _ (List.mem_of_getElem? (i := 18) rfl)
theorem om_379 : (.methodLink RX4 204 yX4_pushElement : Cond) ∈ Om := ot_15 _ (List.mem_of_getElem? (i := 19) rfl)
theorem om_380 : (.instanceMethod yX4_pushElement : Cond) ∈ Om := ot_15 _ (List.mem_of_getElem? (i := 20) rfl)
theorem om_381 : (.selects RX4 yX4_pushElement yX4_pushElement : Cond) ∈ Om := ot_15 _ (List.mem_of_getElem? (i := 21) rfl)
theorem om_382 : (.code yX4_doTwo cX4_doTwo 8 none : Cond) ∈ Om := ot_15 _ (List.mem_of_getElem? (i := 22) rfl)
theorem om_383 : (.methodLink RX4 128 yX4_doTwo : Cond) ∈ Om := ot_15 _ (List.mem_of_getElem? (i := 23) rfl)
theorem om_384 : (.instanceMethod yX4_doTwo : Cond) ∈ Om := ot_16 _ (List.mem_of_getElem? (i := 0) rfl)
theorem om_385 : (.selects RX4 yX4_doTwo yX4_doTwo : Cond) ∈ Om := ot_16 _ (List.mem_of_getElem? (i := 1) rfl)
theorem om_386 : (.methodLink RX10 89 yX10_kindAt : Cond) ∈ Om := ot_16 _ (List.mem_of_getElem? (i := 2) rfl)
theorem om_387 : (.code yX10_sizeOf cX10_sizeOf 4 (some .int) : Cond) ∈ Om := ot_16 _ (List.mem_of_getElem? (i := 3) rfl)
theorem om_388 : (.methodLink RX4 171 yX10_sizeOf : Cond) ∈ Om := ot_16 _ (List.mem_of_getElem? (i := 4) rfl)
theorem om_389 : (.instanceMethod yX10_sizeOf : Cond) ∈ Om := ot_16 _ (List.mem_of_getElem? (i := 5) rfl)
theorem om_390 : (.selects RX10 yX10_sizeOf yX10_sizeOf : Cond) ∈ Om := ot_16 _ (List.mem_of_getElem? (i := 6) rfl)
theorem om_391 : (.code yX10_slotNamed cX10_slotNamed 5 (some .int) : Cond) ∈ Om := ot_16 _ (List.mem_of_getElem? (i := 7) rfl)
theorem om_392 : (.methodLink RX4 184 yX10_slotNamed : Cond) ∈ Om := ot_16 _ (List.mem_of_getElem? (i := 8) rfl)
theorem om_393 : (.instanceMethod yX10_slotNamed : Cond) ∈ Om := ot_16 _ (List.mem_of_getElem? (i := 9) rfl)
theorem om_394 : (.selects RX10 yX10_slotNamed yX10_slotNamed : Cond) ∈ Om := ot_16 _ (List.mem_of_getElem? (i := 10) rfl)
theorem om_395 : (.code yX4_lookAt cX4_lookAt 7 none : Cond) ∈ Om := ot_16 _ (List.mem_of_getElem? (i := 11) rfl)
theorem om_396 : (.methodLink RX4 156 yX4_lookAt : Cond) ∈ Om := ot_16 _ (List.mem_of_getElem? (i := 12) rfl)
theorem om_397 : (.instanceMethod yX4_lookAt : Cond) ∈ Om := ot_16 _ (List.mem_of_getElem? (i := 13) rfl)
theorem om_398 : (.selects RX4 yX4_lookAt yX4_lookAt : Cond) ∈ Om := ot_16 _ (List.mem_of_getElem? (i := 14) rfl)
theorem om_399 : (.code yX4_doOne cX4_doOne 7 none : Cond) ∈ Om := ot_16 _ (List.mem_of_getElem? (i := 15) rfl)
theorem om_400 : (.methodLink RX4 124 yX4_doOne : Cond) ∈ Om := ot_16 _ (List.mem_of_getElem? (i := 16) rfl)
theorem om_401 : (.instanceMethod yX4_doOne : Cond) ∈ Om := ot_16 _ (List.mem_of_getElem? (i := 17) rfl)
theorem om_402 : (.selects RX4 yX4_doOne yX4_doOne : Cond) ∈ Om := ot_16 _ (List.mem_of_getElem? (i := 18) rfl)
theorem om_403 : (.code yX4_pushThing cX4_pushThing 4 none : Cond) ∈ Om := ot_16 _ (List.mem_of_getElem? (i := 19) rfl)
theorem om_404 : (.methodLink RX4 152 yX4_pushThing : Cond) ∈ Om := ot_16 _ (List.mem_of_getElem? (i := 20) rfl)
theorem om_405 : (.instanceMethod yX4_pushThing : Cond) ∈ Om := ot_16 _ (List.mem_of_getElem? (i := 21) rfl)
theorem om_406 : (.selects RX4 yX4_pushThing yX4_pushThing : Cond) ∈ Om := ot_16 _ (List.mem_of_getElem? (i := 22) rfl)
theorem om_407 : (.code yX4_doLeaf cX4_doLeaf 6 none : Cond) ∈ Om := ot_16 _ (List.mem_of_getElem? (i := 23) rfl)
theorem om_408 : (.methodLink RX4 117 yX4_doLeaf : Cond) ∈ Om := ot_17 _ (List.mem_of_getElem? (i := 0) rfl)
theorem om_409 : (.instanceMethod yX4_doLeaf : Cond) ∈ Om := ot_17 _ (List.mem_of_getElem? (i := 1) rfl)
theorem om_410 : (.selects RX4 yX4_doLeaf yX4_doLeaf : Cond) ∈ Om := ot_17 _ (List.mem_of_getElem? (i := 2) rfl)
theorem om_411 : (.code yX4_execute cX4_execute 3 (some .int) : Cond) ∈ Om := ot_17 _ (List.mem_of_getElem? (i := 3) rfl)
theorem om_412 : (.methodLink RX4 110 yX4_execute : Cond) ∈ Om := ot_17 _ (List.mem_of_getElem? (i := 4) rfl)
theorem om_413 : (.instanceMethod yX4_execute : Cond) ∈ Om := ot_17 _ (List.mem_of_getElem? (i := 5) rfl)
theorem om_414 : (.selects RX4 yX4_execute yX4_execute : Cond) ∈ Om := ot_17 _ (List.mem_of_getElem? (i := 6) rfl)
theorem om_415 : (.methodLink RX8 67 yJ7_fill_fda19 : Cond) ∈ Om := ot_17 _ (List.mem_of_getElem? (i := 7) rfl)
theorem om_416 : (.constant RX8 99 (1000000) : Cond) ∈ Om := ot_17 _ (List.mem_of_getElem? (i := 8) rfl)
theorem om_417 : (.methodLink RX8 110 yX10_sizeOf : Cond) ∈ Om := ot_17 _ (List.mem_of_getElem? (i := 9) rfl)
theorem om_418 : (.code yX8_meeting cX8_meeting 6 (some .int) : Cond) ∈ Om := ot_17 _ (List.mem_of_getElem? (i := 10) rfl)
theorem om_419 : (.methodLink RX8 116 yX8_meeting : Cond) ∈ Om := ot_17 _ (List.mem_of_getElem? (i := 11) rfl)
theorem om_420 : (.instanceMethod yX8_meeting : Cond) ∈ Om := ot_17 _ (List.mem_of_getElem? (i := 12) rfl)
theorem om_421 : (.selects RX8 yX8_meeting yX8_meeting : Cond) ∈ Om := ot_17 _ (List.mem_of_getElem? (i := 13) rfl)
theorem om_422 : (.initialized RX8 : Cond) ∈ Om := ot_17 _ (List.mem_of_getElem? (i := 14) rfl)
theorem om_423 : (.code yX8_commonDominator cX8_commonDominator 5 (some .int) : Cond) ∈ Om := ot_17 _ (List.mem_of_getElem? (i := 15) rfl)
theorem om_424 : (.methodLink RX8 100 yX8_commonDominator : Cond) ∈ Om := ot_17 _ (List.mem_of_getElem? (i := 16) rfl)
theorem om_425 : (.instanceMethod yX8_commonDominator : Cond) ∈ Om := ot_17 _ (List.mem_of_getElem? (i := 17) rfl)
theorem om_426 : (.selects RX8 yX8_commonDominator yX8_commonDominator : Cond) ∈ Om := ot_17 _ (List.mem_of_getElem? (i := 18) rfl)
theorem om_427 : (.code yX8_needDominators cX8_needDominators 6 none : Cond) ∈ Om := ot_17 _ (List.mem_of_getElem? (i := 19) rfl)
theorem om_428 : (.methodLink RX4 103 yX8_needDominators : Cond) ∈ Om := ot_17 _ (List.mem_of_getElem? (i := 20) rfl)
theorem om_429 : (.instanceMethod yX8_needDominators : Cond) ∈ Om := ot_17 _ (List.mem_of_getElem? (i := 21) rfl)
theorem om_430 : (.selects RX8 yX8_needDominators yX8_needDominators : Cond) ∈ Om := ot_17 _ (List.mem_of_getElem? (i := 22) rfl)
theorem om_431 : (.constantLong RX8 90 (-1) : Cond) ∈ Om := ot_17 _ (List.mem_of_getElem? (i := 23) rfl)
theorem om_432 : (.code yX8_addHolder cX8_addHolder 4 none : Cond) ∈ Om := ot_18 _ (List.mem_of_getElem? (i := 0) rfl)
theorem om_433 : (.methodLink RX8 95 yX8_addHolder : Cond) ∈ Om := ot_18 _ (List.mem_of_getElem? (i := 1) rfl)
theorem om_434 : (.instanceMethod yX8_addHolder : Cond) ∈ Om := ot_18 _ (List.mem_of_getElem? (i := 2) rfl)
theorem om_435 : (.selects RX8 yX8_addHolder yX8_addHolder : Cond) ∈ Om := ot_18 _ (List.mem_of_getElem? (i := 3) rfl)
theorem om_436 : (.code yX8_needHolders cX8_needHolders 4 none : Cond) ∈ Om := ot_18 _ (List.mem_of_getElem? (i := 4) rfl)
theorem om_437 : (.methodLink RX4 94 yX8_needHolders : Cond) ∈ Om := ot_18 _ (List.mem_of_getElem? (i := 5) rfl)
theorem om_438 : (.instanceMethod yX8_needHolders : Cond) ∈ Om := ot_18 _ (List.mem_of_getElem? (i := 6) rfl)
theorem om_439 : (.selects RX8 yX8_needHolders yX8_needHolders : Cond) ∈ Om := ot_18 _ (List.mem_of_getElem? (i := 7) rfl)
theorem om_440 : (.methodLink RX5 95 yX5_forget : Cond) ∈ Om := ot_18 _ (List.mem_of_getElem? (i := 8) rfl)
theorem om_441 : (.methodLink RX5 111 yX10_ownFields : Cond) ∈ Om := ot_18 _ (List.mem_of_getElem? (i := 9) rfl)
theorem om_442 : (.constantLong RX5 128 (-1) : Cond) ∈ Om := ot_18 _ (List.mem_of_getElem? (i := 10) rfl)
theorem om_443 : (.methodLink RX5 140 yX2_slotsOf : Cond) ∈ Om := ot_18 _ (List.mem_of_getElem? (i := 11) rfl)
theorem om_444 : (.methodLink RX5 144 yX5_addThing : Cond) ∈ Om := ot_18 _ (List.mem_of_getElem? (i := 12) rfl)
theorem om_445 : (.code yX5_meet cX5_meet 6 (some .int) : Cond) ∈ Om := ot_18 _ (List.mem_of_getElem? (i := 13) rfl)
theorem om_446 : (.methodLink RX5 130 yX5_meet : Cond) ∈ Om := ot_18 _ (List.mem_of_getElem? (i := 14) rfl)
theorem om_447 : (.instanceMethod yX5_meet : Cond) ∈ Om := ot_18 _ (List.mem_of_getElem? (i := 15) rfl)
theorem om_448 : (.selects RX5 yX5_meet yX5_meet : Cond) ∈ Om := ot_18 _ (List.mem_of_getElem? (i := 16) rfl)
theorem om_449 : (.code yX5_takeSlots cX5_takeSlots 9 none : Cond) ∈ Om := ot_18 _ (List.mem_of_getElem? (i := 17) rfl)
theorem om_450 : (.methodLink RX5 124 yX5_takeSlots : Cond) ∈ Om := ot_18 _ (List.mem_of_getElem? (i := 18) rfl)
theorem om_451 : (.instanceMethod yX5_takeSlots : Cond) ∈ Om := ot_18 _ (List.mem_of_getElem? (i := 19) rfl)
theorem om_452 : (.selects RX5 yX5_takeSlots yX5_takeSlots : Cond) ∈ Om := ot_18 _ (List.mem_of_getElem? (i := 20) rfl)
theorem om_453 : (.methodLink RX5 117 yX10_isLinkStatic : Cond) ∈ Om := ot_18 _ (List.mem_of_getElem? (i := 21) rfl)
theorem om_454 : (.methodLink RX5 134 yX5_addRoot : Cond) ∈ Om := ot_18 _ (List.mem_of_getElem? (i := 22) rfl)
theorem om_455 : (.code yX5_meetRoot cX5_meetRoot 5 none : Cond) ∈ Om := ot_18 _ (List.mem_of_getElem? (i := 23) rfl)
theorem om_456 : (.methodLink RX5 103 yX5_meetRoot : Cond) ∈ Om := ot_19 _ (List.mem_of_getElem? (i := 0) rfl)
theorem om_457 : (.instanceMethod yX5_meetRoot : Cond) ∈ Om := ot_19 _ (List.mem_of_getElem? (i := 1) rfl)
theorem om_458 : (.selects RX5 yX5_meetRoot yX5_meetRoot : Cond) ∈ Om := ot_19 _ (List.mem_of_getElem? (i := 2) rfl)
theorem om_459 : (.methodLink RX5 155 yX8_needHolders : Cond) ∈ Om := ot_19 _ (List.mem_of_getElem? (i := 3) rfl)
theorem om_460 : (.methodLink RX5 174 yX8_needDominators : Cond) ∈ Om := ot_19 _ (List.mem_of_getElem? (i := 4) rfl)
theorem om_461 : (.code yX5_needDominators cX5_needDominators 1 none : Cond) ∈ Om := ot_19 _ (List.mem_of_getElem? (i := 5) rfl)
theorem om_462 : (.methodLink RX5 162 yX5_needDominators : Cond) ∈ Om := ot_19 _ (List.mem_of_getElem? (i := 6) rfl)
theorem om_463 : (.instanceMethod yX5_needDominators : Cond) ∈ Om := ot_19 _ (List.mem_of_getElem? (i := 7) rfl)
theorem om_464 : (.selects RX5 yX5_needDominators yX5_needDominators : Cond) ∈ Om := ot_19 _ (List.mem_of_getElem? (i := 8) rfl)
theorem om_465 : (.code yX8_linksItself cX8_linksItself 3 (some .boolean) : Cond) ∈ Om := ot_19 _ (List.mem_of_getElem? (i := 9) rfl)
theorem om_466 : (.methodLink RX8 145 yX8_linksItself : Cond) ∈ Om := ot_19 _ (List.mem_of_getElem? (i := 10) rfl)
theorem om_467 : (.static yX8_linksItself : Cond) ∈ Om := ot_19 _ (List.mem_of_getElem? (i := 11) rfl)
theorem om_468 : (.code yX8_numberRings cX8_numberRings 4 none : Cond) ∈ Om := ot_19 _ (List.mem_of_getElem? (i := 12) rfl)
theorem om_469 : (.methodLink RX8 123 yX8_numberRings : Cond) ∈ Om := ot_19 _ (List.mem_of_getElem? (i := 13) rfl)
theorem om_470 : (.instanceMethod yX8_numberRings : Cond) ∈ Om := ot_19 _ (List.mem_of_getElem? (i := 14) rfl)
theorem om_471 : (.selects RX8 yX8_numberRings yX8_numberRings : Cond) ∈ Om := ot_19 _ (List.mem_of_getElem? (i := 15) rfl)
theorem om_472 : (.code yX8_enter cX8_enter 3 (some .int) : Cond) ∈ Om := ot_19 _ (List.mem_of_getElem? (i := 16) rfl)
theorem om_473 : (.methodLink RX8 127 yX8_enter : Cond) ∈ Om := ot_19 _ (List.mem_of_getElem? (i := 17) rfl)
theorem om_474 : (.instanceMethod yX8_enter : Cond) ∈ Om := ot_19 _ (List.mem_of_getElem? (i := 18) rfl)
theorem om_475 : (.selects RX8 yX8_enter yX8_enter : Cond) ∈ Om := ot_19 _ (List.mem_of_getElem? (i := 19) rfl)
theorem om_476 : (.code yX8_nextLink cX8_nextLink 4 (some .int) : Cond) ∈ Om := ot_19 _ (List.mem_of_getElem? (i := 20) rfl)
theorem om_477 : (.methodLink RX8 130 yX8_nextLink : Cond) ∈ Om := ot_19 _ (List.mem_of_getElem? (i := 21) rfl)
theorem om_478 : (.instanceMethod yX8_nextLink : Cond) ∈ Om := ot_19 _ (List.mem_of_getElem? (i := 22) rfl)
theorem om_479 : (.selects RX8 yX8_nextLink yX8_nextLink : Cond) ∈ Om := ot_19 _ (List.mem_of_getElem? (i := 23) rfl)
theorem om_480 : (.methodLink RX8 134 Lib.Math.min.name : Cond) ∈ Om := ot_20 _ (List.mem_of_getElem? (i := 0) rfl)
theorem om_481 : (.code yX8_closeRing cX8_closeRing 4 (some .int) : Cond) ∈ Om := ot_20 _ (List.mem_of_getElem? (i := 1) rfl)
theorem om_482 : (.methodLink RX8 139 yX8_closeRing : Cond) ∈ Om := ot_20 _ (List.mem_of_getElem? (i := 2) rfl)
theorem om_483 : (.instanceMethod yX8_closeRing : Cond) ∈ Om := ot_20 _ (List.mem_of_getElem? (i := 3) rfl)
theorem om_484 : (.selects RX8 yX8_closeRing yX8_closeRing : Cond) ∈ Om := ot_20 _ (List.mem_of_getElem? (i := 4) rfl)
theorem om_485 : (.code yX8_explore cX8_explore 10 (some .int) : Cond) ∈ Om := ot_20 _ (List.mem_of_getElem? (i := 5) rfl)
theorem om_486 : (.methodLink RX8 119 yX8_explore : Cond) ∈ Om := ot_20 _ (List.mem_of_getElem? (i := 6) rfl)
theorem om_487 : (.instanceMethod yX8_explore : Cond) ∈ Om := ot_20 _ (List.mem_of_getElem? (i := 7) rfl)
theorem om_488 : (.selects RX8 yX8_explore yX8_explore : Cond) ∈ Om := ot_20 _ (List.mem_of_getElem? (i := 8) rfl)
theorem om_489 : (.code yX8_needRings cX8_needRings 4 none : Cond) ∈ Om := ot_20 _ (List.mem_of_getElem? (i := 9) rfl)
theorem om_490 : (.methodLink RX5 176 yX8_needRings : Cond) ∈ Om := ot_20 _ (List.mem_of_getElem? (i := 10) rfl)
theorem om_491 : (.instanceMethod yX8_needRings : Cond) ∈ Om := ot_20 _ (List.mem_of_getElem? (i := 11) rfl)
theorem om_492 : (.selects RX8 yX8_needRings yX8_needRings : Cond) ∈ Om := ot_20 _ (List.mem_of_getElem? (i := 12) rfl)
theorem om_493 : (.code yX5_memberOf cX5_memberOf 6 (some .int) : Cond) ∈ Om := ot_20 _ (List.mem_of_getElem? (i := 13) rfl)
theorem om_494 : (.methodLink RX5 185 yX5_memberOf : Cond) ∈ Om := ot_20 _ (List.mem_of_getElem? (i := 14) rfl)
theorem om_495 : (.instanceMethod yX5_memberOf : Cond) ∈ Om := ot_20 _ (List.mem_of_getElem? (i := 15) rfl)
theorem om_496 : (.selects RX5 yX5_memberOf yX5_memberOf : Cond) ∈ Om := ot_20 _ (List.mem_of_getElem? (i := 16) rfl)
theorem om_497 : (.code yJ7_fill_53178 cJ7_fill_53178 4 none : Cond) ∈ Om := ot_20 _ (List.mem_of_getElem? (i := 17) rfl)
theorem om_498 : (.methodLink RX8 149 yJ7_fill_53178 : Cond) ∈ Om := ot_20 _ (List.mem_of_getElem? (i := 18) rfl)
theorem om_499 : (.static yJ7_fill_53178 : Cond) ∈ Om := ot_20 _ (List.mem_of_getElem? (i := 19) rfl)
theorem om_500 : (.constantLong RX8 162 (61) : Cond) ∈ Om := ot_20 _ (List.mem_of_getElem? (i := 20) rfl)
theorem om_501 : (.constantLong RX8 164 (31) : Cond) ∈ Om := ot_20 _ (List.mem_of_getElem? (i := 21) rfl)
theorem om_502 : (.code yX8_bucketOf cX8_bucketOf 5 (some .int) : Cond) ∈ Om := ot_20 _ (List.mem_of_getElem? (i := 22) rfl)
theorem om_503 : (.methodLink RX8 152 yX8_bucketOf : Cond) ∈ Om := ot_20 _ (List.mem_of_getElem? (i := 23) rfl)
theorem om_504 : (.static yX8_bucketOf : Cond) ∈ Om := ot_21 _ (List.mem_of_getElem? (i := 0) rfl)
theorem om_505 : (.code yX8_isTwin cX8_isTwin 5 (some .boolean) : Cond) ∈ Om := ot_21 _ (List.mem_of_getElem? (i := 1) rfl)
theorem om_506 : (.methodLink RX8 155 yX8_isTwin : Cond) ∈ Om := ot_21 _ (List.mem_of_getElem? (i := 2) rfl)
theorem om_507 : (.static yX8_isTwin : Cond) ∈ Om := ot_21 _ (List.mem_of_getElem? (i := 3) rfl)
theorem om_508 : (.code yX8_needTwins cX8_needTwins 6 none : Cond) ∈ Om := ot_21 _ (List.mem_of_getElem? (i := 4) rfl)
theorem om_509 : (.methodLink RX5 189 yX8_needTwins : Cond) ∈ Om := ot_21 _ (List.mem_of_getElem? (i := 5) rfl)
theorem om_510 : (.instanceMethod yX8_needTwins : Cond) ∈ Om := ot_21 _ (List.mem_of_getElem? (i := 6) rfl)
theorem om_511 : (.selects RX8 yX8_needTwins yX8_needTwins : Cond) ∈ Om := ot_21 _ (List.mem_of_getElem? (i := 7) rfl)
theorem om_512 : (.methodLink RX5 198 yX10_sizeOf : Cond) ∈ Om := ot_21 _ (List.mem_of_getElem? (i := 8) rfl)
theorem om_513 : (.methodLink RX5 202 yX10_isArray : Cond) ∈ Om := ot_21 _ (List.mem_of_getElem? (i := 9) rfl)
theorem om_514 : (.methodLink RX5 205 yX10_isHeir : Cond) ∈ Om := ot_21 _ (List.mem_of_getElem? (i := 10) rfl)
theorem om_515 : (.methodLink RX5 209 yJ7_fill_fda19 : Cond) ∈ Om := ot_21 _ (List.mem_of_getElem? (i := 11) rfl)
theorem om_516 : (.code yX5_reach cX5_reach 3 (some .int) : Cond) ∈ Om := ot_21 _ (List.mem_of_getElem? (i := 12) rfl)
theorem om_517 : (.methodLink RX5 212 yX5_reach : Cond) ∈ Om := ot_21 _ (List.mem_of_getElem? (i := 13) rfl)
theorem om_518 : (.instanceMethod yX5_reach : Cond) ∈ Om := ot_21 _ (List.mem_of_getElem? (i := 14) rfl)
theorem om_519 : (.selects RX5 yX5_reach yX5_reach : Cond) ∈ Om := ot_21 _ (List.mem_of_getElem? (i := 15) rfl)
theorem om_520 : (.code yX5_isSame cX5_isSame 10 (some .boolean) : Cond) ∈ Om := ot_21 _ (List.mem_of_getElem? (i := 16) rfl)
theorem om_521 : (.methodLink RX5 215 yX5_isSame : Cond) ∈ Om := ot_21 _ (List.mem_of_getElem? (i := 17) rfl)
theorem om_522 : (.instanceMethod yX5_isSame : Cond) ∈ Om := ot_21 _ (List.mem_of_getElem? (i := 18) rfl)
theorem om_523 : (.selects RX5 yX5_isSame yX5_isSame : Cond) ∈ Om := ot_21 _ (List.mem_of_getElem? (i := 19) rfl)
theorem om_524 : (.code yX5_pairSlots cX5_pairSlots 12 (some .int) : Cond) ∈ Om := ot_21 _ (List.mem_of_getElem? (i := 20) rfl)
theorem om_525 : (.methodLink RX5 219 yX5_pairSlots : Cond) ∈ Om := ot_21 _ (List.mem_of_getElem? (i := 21) rfl)
theorem om_526 : (.instanceMethod yX5_pairSlots : Cond) ∈ Om := ot_21 _ (List.mem_of_getElem? (i := 22) rfl)
theorem om_527 : (.selects RX5 yX5_pairSlots yX5_pairSlots : Cond) ∈ Om := ot_21 _ (List.mem_of_getElem? (i := 23) rfl)
theorem om_528 : (.code yX9_isDigit cX9_isDigit 1 (some .boolean) : Cond) ∈ Om := ot_22 _ (List.mem_of_getElem? (i := 0) rfl)
theorem om_529 : (.methodLink RX9 65 yX9_isDigit : Cond) ∈ Om := ot_22 _ (List.mem_of_getElem? (i := 1) rfl)
theorem om_530 : (.static yX9_isDigit : Cond) ∈ Om := ot_22 _ (List.mem_of_getElem? (i := 2) rfl)
theorem om_531 : (.initialized RX9 : Cond) ∈ Om := ot_22 _ (List.mem_of_getElem? (i := 3) rfl)
theorem om_532 : (.code yX9_symbolOf cX9_symbolOf 1 (some .int) : Cond) ∈ Om := ot_22 _ (List.mem_of_getElem? (i := 4) rfl)
theorem om_533 : (.methodLink RX9 45 yX9_symbolOf : Cond) ∈ Om := ot_22 _ (List.mem_of_getElem? (i := 5) rfl)
theorem om_534 : (.static yX9_symbolOf : Cond) ∈ Om := ot_22 _ (List.mem_of_getElem? (i := 6) rfl)
theorem om_535 : (.fieldLink RJ0 38 "java/lang/String" "COMPACT_STRINGS" "Z" : Cond) ∈ Om := ot_22 _ (List.mem_of_getElem? (i := 7) rfl)
theorem om_536 : (.fieldLink RJ0 15 "java/lang/String" "coder" "B" : Cond) ∈ Om := ot_22 _ (List.mem_of_getElem? (i := 8) rfl)
theorem om_537 : (.code yJ0_isLatin1_aae02 cJ0_isLatin1_aae02 1 (some .boolean) : Cond) ∈ Om := ot_22 _ (List.mem_of_getElem? (i := 9) rfl)
theorem om_538 : (.methodLink RJ0 492 yJ0_isLatin1_aae02 : Cond) ∈ Om := ot_22 _ (List.mem_of_getElem? (i := 10) rfl)
theorem om_539 : (.instanceMethod yJ0_isLatin1_aae02 : Cond) ∈ Om := ot_22 _ (List.mem_of_getElem? (i := 11) rfl)
theorem om_540 : (.selects RJ0 yJ0_isLatin1_aae02 yJ0_isLatin1_aae02 : Cond) ∈ Om := ot_22 _ (List.mem_of_getElem? (i := 12) rfl)
theorem om_541 : (.initialized RJ0 : Cond) ∈ Om := ot_22 _ (List.mem_of_getElem? (i := 13) rfl)
theorem om_542 : (.fieldLink RJ0 9 "java/lang/String" "value" "[B" : Cond) ∈ Om := ot_22 _ (List.mem_of_getElem? (i := 14) rfl)
theorem om_543 : (.code yJ0_coder_7d493 cJ0_coder_7d493 1 (some .byte) : Cond) ∈ Om := ot_22 _ (List.mem_of_getElem? (i := 15) rfl)
theorem om_544 : (.methodLink RJ0 335 yJ0_coder_7d493 : Cond) ∈ Om := ot_22 _ (List.mem_of_getElem? (i := 16) rfl)
theorem om_545 : (.instanceMethod yJ0_coder_7d493 : Cond) ∈ Om := ot_22 _ (List.mem_of_getElem? (i := 17) rfl)
theorem om_546 : (.selects RJ0 yJ0_coder_7d493 yJ0_coder_7d493 : Cond) ∈ Om := ot_22 _ (List.mem_of_getElem? (i := 18) rfl)
theorem om_547 : (.code yJ0_length_8abf5 cJ0_length_8abf5 1 (some .int) : Cond) ∈ Om := ot_22 _ (List.mem_of_getElem? (i := 19) rfl)
theorem om_548 : (.methodLink RJ0 505 yJ0_length_8abf5 : Cond) ∈ Om := ot_22 _ (List.mem_of_getElem? (i := 20) rfl)
theorem om_549 : (.instanceMethod yJ0_length_8abf5 : Cond) ∈ Om := ot_22 _ (List.mem_of_getElem? (i := 21) rfl)
theorem om_550 : (.selects RJ0 yJ0_length_8abf5 yJ0_length_8abf5 : Cond) ∈ Om := ot_22 _ (List.mem_of_getElem? (i := 22) rfl)
theorem om_551 : (.code yJ1_canEncode_9a6ad cJ1_canEncode_9a6ad 1 (some .boolean) : Cond) ∈ Om := ot_22 _ (List.mem_of_getElem? (i := 23) rfl)
theorem om_552 : (.methodLink RJ1 88 yJ1_canEncode_9a6ad : Cond) ∈ Om := ot_23 _ (List.mem_of_getElem? (i := 0) rfl)
theorem om_553 : (.static yJ1_canEncode_9a6ad : Cond) ∈ Om := ot_23 _ (List.mem_of_getElem? (i := 1) rfl)
theorem om_554 : (.initialized RJ1 : Cond) ∈ Om := ot_23 _ (List.mem_of_getElem? (i := 2) rfl)
theorem om_555 : (.methodLink RJ1 92 Lib.Math.max.name : Cond) ∈ Om := ot_23 _ (List.mem_of_getElem? (i := 3) rfl)
theorem om_556 : (.methodLink RJ1 38 Lib.Math.min.name : Cond) ∈ Om := ot_23 _ (List.mem_of_getElem? (i := 4) rfl)
theorem om_557 : (.code yJ1_indexOfChar_4cfef cJ1_indexOfChar_4cfef 6 (some .int) : Cond) ∈ Om := ot_23 _ (List.mem_of_getElem? (i := 5) rfl)
theorem om_558 : (.methodLink RJ1 95 yJ1_indexOfChar_4cfef : Cond) ∈ Om := ot_23 _ (List.mem_of_getElem? (i := 6) rfl)
theorem om_559 : (.static yJ1_indexOfChar_4cfef : Cond) ∈ Om := ot_23 _ (List.mem_of_getElem? (i := 7) rfl)
theorem om_560 : (.code yJ1_indexOf_4cfef cJ1_indexOf_4cfef 4 (some .int) : Cond) ∈ Om := ot_23 _ (List.mem_of_getElem? (i := 8) rfl)
theorem om_561 : (.methodLink RJ0 637 yJ1_indexOf_4cfef : Cond) ∈ Om := ot_23 _ (List.mem_of_getElem? (i := 9) rfl)
theorem om_562 : (.static yJ1_indexOf_4cfef : Cond) ∈ Om := ot_23 _ (List.mem_of_getElem? (i := 10) rfl)
theorem om_563 : (.code yJ0_indexOf_7cf53 cJ0_indexOf_7cf53 3 (some .int) : Cond) ∈ Om := ot_23 _ (List.mem_of_getElem? (i := 11) rfl)
theorem om_564 : (.methodLink RJ0 633 yJ0_indexOf_7cf53 : Cond) ∈ Om := ot_23 _ (List.mem_of_getElem? (i := 12) rfl)
theorem om_565 : (.instanceMethod yJ0_indexOf_7cf53 : Cond) ∈ Om := ot_23 _ (List.mem_of_getElem? (i := 13) rfl)
theorem om_566 : (.selects RJ0 yJ0_indexOf_7cf53 yJ0_indexOf_7cf53 : Cond) ∈ Om := ot_23 _ (List.mem_of_getElem? (i := 14) rfl)
theorem om_567 : (.code yJ0_indexOf_0f7a4 cJ0_indexOf_0f7a4 2 (some .int) : Cond) ∈ Om := ot_23 _ (List.mem_of_getElem? (i := 15) rfl)
theorem om_568 : (.methodLink RX9 113 yJ0_indexOf_0f7a4 : Cond) ∈ Om := ot_23 _ (List.mem_of_getElem? (i := 16) rfl)
theorem om_569 : (.instanceMethod yJ0_indexOf_0f7a4 : Cond) ∈ Om := ot_23 _ (List.mem_of_getElem? (i := 17) rfl)
theorem om_570 : (.selects RJ0 yJ0_indexOf_0f7a4 yJ0_indexOf_0f7a4 : Cond) ∈ Om := ot_23 _ (List.mem_of_getElem? (i := 18) rfl)
theorem om_571 : (.code yX9_scanSign cX9_scanSign 3 none : Cond) ∈ Om := ot_23 _ (List.mem_of_getElem? (i := 19) rfl)
theorem om_572 : (.methodLink RX9 100 yX9_scanSign : Cond) ∈ Om := ot_23 _ (List.mem_of_getElem? (i := 20) rfl)
theorem om_573 : (.instanceMethod yX9_scanSign : Cond) ∈ Om := ot_23 _ (List.mem_of_getElem? (i := 21) rfl)
theorem om_574 : (.selects RX9 yX9_scanSign yX9_scanSign : Cond) ∈ Om := ot_23 _ (List.mem_of_getElem? (i := 22) rfl)
theorem om_575 : (.code yX9_keywordOf cX9_keywordOf 4 (some .int) : Cond) ∈ Om := ot_23 _ (List.mem_of_getElem? (i := 23) rfl)
theorem om_576 : (.methodLink RX9 107 yX9_keywordOf : Cond) ∈ Om := ot_24 _ (List.mem_of_getElem? (i := 0) rfl)
theorem om_577 : (.instanceMethod yX9_keywordOf : Cond) ∈ Om := ot_24 _ (List.mem_of_getElem? (i := 1) rfl)
theorem om_578 : (.selects RX9 yX9_keywordOf yX9_keywordOf : Cond) ∈ Om := ot_24 _ (List.mem_of_getElem? (i := 2) rfl)
theorem om_579 : (.constantLong RX9 43 (64) : Cond) ∈ Om := ot_24 _ (List.mem_of_getElem? (i := 3) rfl)
theorem om_580 : (.code yX9_scanName cX9_scanName 2 none : Cond) ∈ Om := ot_24 _ (List.mem_of_getElem? (i := 4) rfl)
theorem om_581 : (.methodLink RX9 97 yX9_scanName : Cond) ∈ Om := ot_24 _ (List.mem_of_getElem? (i := 5) rfl)
theorem om_582 : (.instanceMethod yX9_scanName : Cond) ∈ Om := ot_24 _ (List.mem_of_getElem? (i := 6) rfl)
theorem om_583 : (.selects RX9 yX9_scanName yX9_scanName : Cond) ∈ Om := ot_24 _ (List.mem_of_getElem? (i := 7) rfl)
theorem om_584 : (.constantLong RX9 103 (10) : Cond) ∈ Om := ot_24 _ (List.mem_of_getElem? (i := 8) rfl)
theorem om_585 : (.constantLong RX9 105 (48) : Cond) ∈ Om := ot_24 _ (List.mem_of_getElem? (i := 9) rfl)
theorem om_586 : (.code yX9_scanNumber cX9_scanNumber 1 none : Cond) ∈ Om := ot_24 _ (List.mem_of_getElem? (i := 10) rfl)
theorem om_587 : (.methodLink RX9 94 yX9_scanNumber : Cond) ∈ Om := ot_24 _ (List.mem_of_getElem? (i := 11) rfl)
theorem om_588 : (.instanceMethod yX9_scanNumber : Cond) ∈ Om := ot_24 _ (List.mem_of_getElem? (i := 12) rfl)
theorem om_589 : (.selects RX9 yX9_scanNumber yX9_scanNumber : Cond) ∈ Om := ot_24 _ (List.mem_of_getElem? (i := 13) rfl)
theorem om_590 : (.code yX9_isBlank cX9_isBlank 1 (some .boolean) : Cond) ∈ Om := ot_24 _ (List.mem_of_getElem? (i := 14) rfl)
theorem om_591 : (.methodLink RX9 91 yX9_isBlank : Cond) ∈ Om := ot_24 _ (List.mem_of_getElem? (i := 15) rfl)
theorem om_592 : (.static yX9_isBlank : Cond) ∈ Om := ot_24 _ (List.mem_of_getElem? (i := 16) rfl)
theorem om_593 : (.code yX9_scanWord cX9_scanWord 1 none : Cond) ∈ Om := ot_24 _ (List.mem_of_getElem? (i := 17) rfl)
theorem om_594 : (.methodLink RX9 72 yX9_scanWord : Cond) ∈ Om := ot_24 _ (List.mem_of_getElem? (i := 18) rfl)
theorem om_595 : (.instanceMethod yX9_scanWord : Cond) ∈ Om := ot_24 _ (List.mem_of_getElem? (i := 19) rfl)
theorem om_596 : (.selects RX9 yX9_scanWord yX9_scanWord : Cond) ∈ Om := ot_24 _ (List.mem_of_getElem? (i := 20) rfl)
theorem om_597 : (.code yX9_nextWord cX9_nextWord 1 none : Cond) ∈ Om := ot_24 _ (List.mem_of_getElem? (i := 21) rfl)
theorem om_598 : (.methodLink RX9 88 yX9_nextWord : Cond) ∈ Om := ot_24 _ (List.mem_of_getElem? (i := 22) rfl)
theorem om_599 : (.instanceMethod yX9_nextWord : Cond) ∈ Om := ot_24 _ (List.mem_of_getElem? (i := 23) rfl)
theorem om_600 : (.selects RX9 yX9_nextWord yX9_nextWord : Cond) ∈ Om := ot_25 _ (List.mem_of_getElem? (i := 0) rfl)
theorem om_601 : (.code yX9_startWords cX9_startWords 2 none : Cond) ∈ Om := ot_25 _ (List.mem_of_getElem? (i := 1) rfl)
theorem om_602 : (.methodLink RX6 102 yX9_startWords : Cond) ∈ Om := ot_25 _ (List.mem_of_getElem? (i := 2) rfl)
theorem om_603 : (.instanceMethod yX9_startWords : Cond) ∈ Om := ot_25 _ (List.mem_of_getElem? (i := 3) rfl)
theorem om_604 : (.selects RX9 yX9_startWords yX9_startWords : Cond) ∈ Om := ot_25 _ (List.mem_of_getElem? (i := 4) rfl)
theorem om_605 : (.code yX6_start cX6_start 1 none : Cond) ∈ Om := ot_25 _ (List.mem_of_getElem? (i := 5) rfl)
theorem om_606 : (.methodLink RX6 38 yX6_start : Cond) ∈ Om := ot_25 _ (List.mem_of_getElem? (i := 6) rfl)
theorem om_607 : (.instanceMethod yX6_start : Cond) ∈ Om := ot_25 _ (List.mem_of_getElem? (i := 7) rfl)
theorem om_608 : (.selects RX6 yX6_start yX6_start : Cond) ∈ Om := ot_25 _ (List.mem_of_getElem? (i := 8) rfl)
theorem om_609 : (.initialized RX6 : Cond) ∈ Om := ot_25 _ (List.mem_of_getElem? (i := 9) rfl)
theorem om_610 : (.code yX6_readAnds cX6_readAnds 3 (some .boolean) : Cond) ∈ Om := ot_25 _ (List.mem_of_getElem? (i := 10) rfl)
theorem om_611 : (.methodLink RX6 128 yX6_readAnds : Cond) ∈ Om := ot_25 _ (List.mem_of_getElem? (i := 11) rfl)
theorem om_612 : (.instanceMethod yX6_readAnds : Cond) ∈ Om := ot_25 _ (List.mem_of_getElem? (i := 12) rfl)
theorem om_613 : (.selects RX6 yX6_readAnds yX6_readAnds : Cond) ∈ Om := ot_25 _ (List.mem_of_getElem? (i := 13) rfl)
theorem om_614 : (.code yX6_fail cX6_fail 2 (some .boolean) : Cond) ∈ Om := ot_25 _ (List.mem_of_getElem? (i := 14) rfl)
theorem om_615 : (.methodLink RX6 112 yX6_fail : Cond) ∈ Om := ot_25 _ (List.mem_of_getElem? (i := 15) rfl)
theorem om_616 : (.instanceMethod yX6_fail : Cond) ∈ Om := ot_25 _ (List.mem_of_getElem? (i := 16) rfl)
theorem om_617 : (.selects RX6 yX6_fail yX6_fail : Cond) ∈ Om := ot_25 _ (List.mem_of_getElem? (i := 17) rfl)
theorem om_618 : (.code yX6_addNode cX6_addNode 1 (some .boolean) : Cond) ∈ Om := ot_25 _ (List.mem_of_getElem? (i := 18) rfl)
theorem om_619 : (.methodLink RX6 115 yX6_addNode : Cond) ∈ Om := ot_25 _ (List.mem_of_getElem? (i := 19) rfl)
theorem om_620 : (.instanceMethod yX6_addNode : Cond) ∈ Om := ot_25 _ (List.mem_of_getElem? (i := 20) rfl)
theorem om_621 : (.selects RX6 yX6_addNode yX6_addNode : Cond) ∈ Om := ot_25 _ (List.mem_of_getElem? (i := 21) rfl)
theorem om_622 : (.methodLink RX6 105 Lib.Math.min.name : Cond) ∈ Om := ot_25 _ (List.mem_of_getElem? (i := 22) rfl)
theorem om_623 : (.code yX6_emit cX6_emit 7 (some .int) : Cond) ∈ Om := ot_25 _ (List.mem_of_getElem? (i := 23) rfl)
theorem om_624 : (.methodLink RX6 58 yX6_emit : Cond) ∈ Om := ot_26 _ (List.mem_of_getElem? (i := 0) rfl)
theorem om_625 : (.instanceMethod yX6_emit : Cond) ∈ Om := ot_26 _ (List.mem_of_getElem? (i := 1) rfl)
theorem om_626 : (.selects RX6 yX6_emit yX6_emit : Cond) ∈ Om := ot_26 _ (List.mem_of_getElem? (i := 2) rfl)
theorem om_627 : (.methodLink RX6 69 yX9_nextWord : Cond) ∈ Om := ot_26 _ (List.mem_of_getElem? (i := 3) rfl)
theorem om_628 : (.code yX6_readNots cX6_readNots 3 (some .boolean) : Cond) ∈ Om := ot_26 _ (List.mem_of_getElem? (i := 4) rfl)
theorem om_629 : (.methodLink RX6 131 yX6_readNots : Cond) ∈ Om := ot_26 _ (List.mem_of_getElem? (i := 5) rfl)
theorem om_630 : (.instanceMethod yX6_readNots : Cond) ∈ Om := ot_26 _ (List.mem_of_getElem? (i := 6) rfl)
theorem om_631 : (.selects RX6 yX6_readNots yX6_readNots : Cond) ∈ Om := ot_26 _ (List.mem_of_getElem? (i := 7) rfl)
theorem om_632 : (.code yX6_readComparison cX6_readComparison 2 (some .boolean) : Cond) ∈ Om := ot_26 _ (List.mem_of_getElem? (i := 8) rfl)
theorem om_633 : (.methodLink RX6 134 yX6_readComparison : Cond) ∈ Om := ot_26 _ (List.mem_of_getElem? (i := 9) rfl)
theorem om_634 : (.instanceMethod yX6_readComparison : Cond) ∈ Om := ot_26 _ (List.mem_of_getElem? (i := 10) rfl)
theorem om_635 : (.selects RX6 yX6_readComparison yX6_readComparison : Cond) ∈ Om := ot_26 _ (List.mem_of_getElem? (i := 11) rfl)
theorem om_636 : (.code yX6_readSums cX6_readSums 3 (some .boolean) : Cond) ∈ Om := ot_26 _ (List.mem_of_getElem? (i := 12) rfl)
theorem om_637 : (.methodLink RX6 137 yX6_readSums : Cond) ∈ Om := ot_26 _ (List.mem_of_getElem? (i := 13) rfl)
theorem om_638 : (.instanceMethod yX6_readSums : Cond) ∈ Om := ot_26 _ (List.mem_of_getElem? (i := 14) rfl)
theorem om_639 : (.selects RX6 yX6_readSums yX6_readSums : Cond) ∈ Om := ot_26 _ (List.mem_of_getElem? (i := 15) rfl)
theorem om_640 : (.code yX6_comparisonOf cX6_comparisonOf 1 (some .int) : Cond) ∈ Om := ot_26 _ (List.mem_of_getElem? (i := 16) rfl)
theorem om_641 : (.methodLink RX6 140 yX6_comparisonOf : Cond) ∈ Om := ot_26 _ (List.mem_of_getElem? (i := 17) rfl)
theorem om_642 : (.static yX6_comparisonOf : Cond) ∈ Om := ot_26 _ (List.mem_of_getElem? (i := 18) rfl)
theorem om_643 : (.code yX6_refuse cX6_refuse 1 (some .boolean) : Cond) ∈ Om := ot_26 _ (List.mem_of_getElem? (i := 19) rfl)
theorem om_644 : (.methodLink RX6 51 yX6_refuse : Cond) ∈ Om := ot_26 _ (List.mem_of_getElem? (i := 20) rfl)
theorem om_645 : (.instanceMethod yX6_refuse : Cond) ∈ Om := ot_26 _ (List.mem_of_getElem? (i := 21) rfl)
theorem om_646 : (.selects RX6 yX6_refuse yX6_refuse : Cond) ∈ Om := ot_26 _ (List.mem_of_getElem? (i := 22) rfl)
theorem om_647 : (.code yX6_pass cX6_pass 2 (some .boolean) : Cond) ∈ Om := ot_26 _ (List.mem_of_getElem? (i := 23) rfl)
theorem om_648 : (.methodLink RX6 122 yX6_pass : Cond) ∈ Om := ot_27 _ (List.mem_of_getElem? (i := 0) rfl)
theorem om_649 : (.instanceMethod yX6_pass : Cond) ∈ Om := ot_27 _ (List.mem_of_getElem? (i := 1) rfl)
theorem om_650 : (.selects RX6 yX6_pass yX6_pass : Cond) ∈ Om := ot_27 _ (List.mem_of_getElem? (i := 2) rfl)
theorem om_651 : (.code yX6_readProducts cX6_readProducts 3 (some .boolean) : Cond) ∈ Om := ot_27 _ (List.mem_of_getElem? (i := 3) rfl)
theorem om_652 : (.methodLink RX6 144 yX6_readProducts : Cond) ∈ Om := ot_27 _ (List.mem_of_getElem? (i := 4) rfl)
theorem om_653 : (.instanceMethod yX6_readProducts : Cond) ∈ Om := ot_27 _ (List.mem_of_getElem? (i := 5) rfl)
theorem om_654 : (.selects RX6 yX6_readProducts yX6_readProducts : Cond) ∈ Om := ot_27 _ (List.mem_of_getElem? (i := 6) rfl)
theorem om_655 : (.code yX6_readSigned cX6_readSigned 3 (some .boolean) : Cond) ∈ Om := ot_27 _ (List.mem_of_getElem? (i := 7) rfl)
theorem om_656 : (.methodLink RX6 147 yX6_readSigned : Cond) ∈ Om := ot_27 _ (List.mem_of_getElem? (i := 8) rfl)
theorem om_657 : (.instanceMethod yX6_readSigned : Cond) ∈ Om := ot_27 _ (List.mem_of_getElem? (i := 9) rfl)
theorem om_658 : (.selects RX6 yX6_readSigned yX6_readSigned : Cond) ∈ Om := ot_27 _ (List.mem_of_getElem? (i := 10) rfl)
theorem om_659 : (.code yX6_readP cX6_readP 3 (some .boolean) : Cond) ∈ Om := ot_27 _ (List.mem_of_getElem? (i := 11) rfl)
theorem om_660 : (.methodLink RX6 125 yX6_readP : Cond) ∈ Om := ot_27 _ (List.mem_of_getElem? (i := 12) rfl)
theorem om_661 : (.instanceMethod yX6_readP : Cond) ∈ Om := ot_27 _ (List.mem_of_getElem? (i := 13) rfl)
theorem om_662 : (.selects RX6 yX6_readP yX6_readP : Cond) ∈ Om := ot_27 _ (List.mem_of_getElem? (i := 14) rfl)
theorem om_663 : (.code yX6_readAtom cX6_readAtom 1 (some .boolean) : Cond) ∈ Om := ot_27 _ (List.mem_of_getElem? (i := 15) rfl)
theorem om_664 : (.methodLink RX6 150 yX6_readAtom : Cond) ∈ Om := ot_27 _ (List.mem_of_getElem? (i := 16) rfl)
theorem om_665 : (.instanceMethod yX6_readAtom : Cond) ∈ Om := ot_27 _ (List.mem_of_getElem? (i := 17) rfl)
theorem om_666 : (.selects RX6 yX6_readAtom yX6_readAtom : Cond) ∈ Om := ot_27 _ (List.mem_of_getElem? (i := 18) rfl)
theorem om_667 : (.code yX6_readTail cX6_readTail 3 (some .boolean) : Cond) ∈ Om := ot_27 _ (List.mem_of_getElem? (i := 19) rfl)
theorem om_668 : (.methodLink RX6 153 yX6_readTail : Cond) ∈ Om := ot_27 _ (List.mem_of_getElem? (i := 20) rfl)
theorem om_669 : (.instanceMethod yX6_readTail : Cond) ∈ Om := ot_27 _ (List.mem_of_getElem? (i := 21) rfl)
theorem om_670 : (.selects RX6 yX6_readTail yX6_readTail : Cond) ∈ Om := ot_27 _ (List.mem_of_getElem? (i := 22) rfl)
theorem om_671 : (.code yX6_readE cX6_readE 3 (some .boolean) : Cond) ∈ Om := ot_27 _ (List.mem_of_getElem? (i := 23) rfl)
theorem om_672 : (.methodLink RX6 41 yX6_readE : Cond) ∈ Om := ot_28 _ (List.mem_of_getElem? (i := 0) rfl)
theorem om_673 : (.instanceMethod yX6_readE : Cond) ∈ Om := ot_28 _ (List.mem_of_getElem? (i := 1) rfl)
theorem om_674 : (.selects RX6 yX6_readE yX6_readE : Cond) ∈ Om := ot_28 _ (List.mem_of_getElem? (i := 2) rfl)
theorem om_675 : (.code yX6_addNest cX6_addNest 1 (some .boolean) : Cond) ∈ Om := ot_28 _ (List.mem_of_getElem? (i := 3) rfl)
theorem om_676 : (.methodLink RX6 156 yX6_addNest : Cond) ∈ Om := ot_28 _ (List.mem_of_getElem? (i := 4) rfl)
theorem om_677 : (.instanceMethod yX6_addNest : Cond) ∈ Om := ot_28 _ (List.mem_of_getElem? (i := 5) rfl)
theorem om_678 : (.selects RX6 yX6_addNest yX6_addNest : Cond) ∈ Om := ot_28 _ (List.mem_of_getElem? (i := 6) rfl)
theorem om_679 : (.code yX6_readLeaf cX6_readLeaf 5 (some .boolean) : Cond) ∈ Om := ot_28 _ (List.mem_of_getElem? (i := 7) rfl)
theorem om_680 : (.methodLink RX6 159 yX6_readLeaf : Cond) ∈ Om := ot_28 _ (List.mem_of_getElem? (i := 8) rfl)
theorem om_681 : (.instanceMethod yX6_readLeaf : Cond) ∈ Om := ot_28 _ (List.mem_of_getElem? (i := 9) rfl)
theorem om_682 : (.selects RX6 yX6_readLeaf yX6_readLeaf : Cond) ∈ Om := ot_28 _ (List.mem_of_getElem? (i := 10) rfl)
theorem om_683 : (.code yX6_readVariable cX6_readVariable 2 (some .boolean) : Cond) ∈ Om := ot_28 _ (List.mem_of_getElem? (i := 11) rfl)
theorem om_684 : (.methodLink RX6 163 yX6_readVariable : Cond) ∈ Om := ot_28 _ (List.mem_of_getElem? (i := 12) rfl)
theorem om_685 : (.instanceMethod yX6_readVariable : Cond) ∈ Om := ot_28 _ (List.mem_of_getElem? (i := 13) rfl)
theorem om_686 : (.selects RX6 yX6_readVariable yX6_readVariable : Cond) ∈ Om := ot_28 _ (List.mem_of_getElem? (i := 14) rfl)
theorem om_687 : (.code yX6_readInner cX6_readInner 1 (some .boolean) : Cond) ∈ Om := ot_28 _ (List.mem_of_getElem? (i := 15) rfl)
theorem om_688 : (.methodLink RX6 169 yX6_readInner : Cond) ∈ Om := ot_28 _ (List.mem_of_getElem? (i := 16) rfl)
theorem om_689 : (.instanceMethod yX6_readInner : Cond) ∈ Om := ot_28 _ (List.mem_of_getElem? (i := 17) rfl)
theorem om_690 : (.selects RX6 yX6_readInner yX6_readInner : Cond) ∈ Om := ot_28 _ (List.mem_of_getElem? (i := 18) rfl)
theorem om_691 : (.code yX6_readThing cX6_readThing 1 (some .boolean) : Cond) ∈ Om := ot_28 _ (List.mem_of_getElem? (i := 19) rfl)
theorem om_692 : (.methodLink RX6 166 yX6_readThing : Cond) ∈ Om := ot_28 _ (List.mem_of_getElem? (i := 20) rfl)
theorem om_693 : (.instanceMethod yX6_readThing : Cond) ∈ Om := ot_28 _ (List.mem_of_getElem? (i := 21) rfl)
theorem om_694 : (.selects RX6 yX6_readThing yX6_readThing : Cond) ∈ Om := ot_28 _ (List.mem_of_getElem? (i := 22) rfl)
theorem om_695 : (.code yX6_readFold cX6_readFold 5 (some .boolean) : Cond) ∈ Om := ot_28 _ (List.mem_of_getElem? (i := 23) rfl)
theorem om_696 : (.methodLink RX6 172 yX6_readFold : Cond) ∈ Om := ot_29 _ (List.mem_of_getElem? (i := 0) rfl)
theorem om_697 : (.instanceMethod yX6_readFold : Cond) ∈ Om := ot_29 _ (List.mem_of_getElem? (i := 1) rfl)
theorem om_698 : (.selects RX6 yX6_readFold yX6_readFold : Cond) ∈ Om := ot_29 _ (List.mem_of_getElem? (i := 2) rfl)
theorem om_699 : (.code yX6_readSet cX6_readSet 3 (some .boolean) : Cond) ∈ Om := ot_29 _ (List.mem_of_getElem? (i := 3) rfl)
theorem om_700 : (.methodLink RX6 54 yX6_readSet : Cond) ∈ Om := ot_29 _ (List.mem_of_getElem? (i := 4) rfl)
theorem om_701 : (.instanceMethod yX6_readSet : Cond) ∈ Om := ot_29 _ (List.mem_of_getElem? (i := 5) rfl)
theorem om_702 : (.selects RX6 yX6_readSet yX6_readSet : Cond) ∈ Om := ot_29 _ (List.mem_of_getElem? (i := 6) rfl)
theorem om_703 : (.code yX6_readFoldBody cX6_readFoldBody 4 (some .boolean) : Cond) ∈ Om := ot_29 _ (List.mem_of_getElem? (i := 7) rfl)
theorem om_704 : (.methodLink RX6 175 yX6_readFoldBody : Cond) ∈ Om := ot_29 _ (List.mem_of_getElem? (i := 8) rfl)
theorem om_705 : (.instanceMethod yX6_readFoldBody : Cond) ∈ Om := ot_29 _ (List.mem_of_getElem? (i := 9) rfl)
theorem om_706 : (.selects RX6 yX6_readFoldBody yX6_readFoldBody : Cond) ∈ Om := ot_29 _ (List.mem_of_getElem? (i := 10) rfl)
theorem om_707 : (.code yX6_readWhere cX6_readWhere 2 (some .boolean) : Cond) ∈ Om := ot_29 _ (List.mem_of_getElem? (i := 11) rfl)
theorem om_708 : (.methodLink RX6 66 yX6_readWhere : Cond) ∈ Om := ot_29 _ (List.mem_of_getElem? (i := 12) rfl)
theorem om_709 : (.instanceMethod yX6_readWhere : Cond) ∈ Om := ot_29 _ (List.mem_of_getElem? (i := 13) rfl)
theorem om_710 : (.selects RX6 yX6_readWhere yX6_readWhere : Cond) ∈ Om := ot_29 _ (List.mem_of_getElem? (i := 14) rfl)
theorem om_711 : (.methodLink RX7 83 yX9_startWords : Cond) ∈ Om := ot_29 _ (List.mem_of_getElem? (i := 15) rfl)
theorem om_712 : (.code yX7_isPlainName cX7_isPlainName 1 (some .boolean) : Cond) ∈ Om := ot_29 _ (List.mem_of_getElem? (i := 16) rfl)
theorem om_713 : (.methodLink RX7 103 yX7_isPlainName : Cond) ∈ Om := ot_29 _ (List.mem_of_getElem? (i := 17) rfl)
theorem om_714 : (.instanceMethod yX7_isPlainName : Cond) ∈ Om := ot_29 _ (List.mem_of_getElem? (i := 18) rfl)
theorem om_715 : (.selects RX7 yX7_isPlainName yX7_isPlainName : Cond) ∈ Om := ot_29 _ (List.mem_of_getElem? (i := 19) rfl)
theorem om_716 : (.initialized RX7 : Cond) ∈ Om := ot_29 _ (List.mem_of_getElem? (i := 20) rfl)
theorem om_717 : (.code yX7_relationOf cX7_relationOf 4 (some .int) : Cond) ∈ Om := ot_29 _ (List.mem_of_getElem? (i := 21) rfl)
theorem om_718 : (.methodLink RX7 116 yX7_relationOf : Cond) ∈ Om := ot_29 _ (List.mem_of_getElem? (i := 22) rfl)
theorem om_719 : (.instanceMethod yX7_relationOf : Cond) ∈ Om := ot_29 _ (List.mem_of_getElem? (i := 23) rfl)
theorem om_720 : (.selects RX7 yX7_relationOf yX7_relationOf : Cond) ∈ Om := ot_30 _ (List.mem_of_getElem? (i := 0) rfl)
theorem om_721 : (.methodLink RX7 97 yX9_nextWord : Cond) ∈ Om := ot_30 _ (List.mem_of_getElem? (i := 1) rfl)
theorem om_722 : (.code yX7_refuse cX7_refuse 1 (some .boolean) : Cond) ∈ Om := ot_30 _ (List.mem_of_getElem? (i := 2) rfl)
theorem om_723 : (.methodLink RX7 94 yX7_refuse : Cond) ∈ Om := ot_30 _ (List.mem_of_getElem? (i := 3) rfl)
theorem om_724 : (.instanceMethod yX7_refuse : Cond) ∈ Om := ot_30 _ (List.mem_of_getElem? (i := 4) rfl)
theorem om_725 : (.selects RX7 yX7_refuse yX7_refuse : Cond) ∈ Om := ot_30 _ (List.mem_of_getElem? (i := 5) rfl)
theorem om_726 : (.code yX7_pass cX7_pass 2 (some .boolean) : Cond) ∈ Om := ot_30 _ (List.mem_of_getElem? (i := 6) rfl)
theorem om_727 : (.methodLink RX7 131 yX7_pass : Cond) ∈ Om := ot_30 _ (List.mem_of_getElem? (i := 7) rfl)
theorem om_728 : (.instanceMethod yX7_pass : Cond) ∈ Om := ot_30 _ (List.mem_of_getElem? (i := 8) rfl)
theorem om_729 : (.selects RX7 yX7_pass yX7_pass : Cond) ∈ Om := ot_30 _ (List.mem_of_getElem? (i := 9) rfl)
theorem om_730 : (.code yX7_variableOf cX7_variableOf 4 (some .int) : Cond) ∈ Om := ot_30 _ (List.mem_of_getElem? (i := 10) rfl)
theorem om_731 : (.methodLink RX7 138 yX7_variableOf : Cond) ∈ Om := ot_30 _ (List.mem_of_getElem? (i := 11) rfl)
theorem om_732 : (.instanceMethod yX7_variableOf : Cond) ∈ Om := ot_30 _ (List.mem_of_getElem? (i := 12) rfl)
theorem om_733 : (.selects RX7 yX7_variableOf yX7_variableOf : Cond) ∈ Om := ot_30 _ (List.mem_of_getElem? (i := 13) rfl)
theorem om_734 : (.code yX7_fail cX7_fail 3 (some .boolean) : Cond) ∈ Om := ot_30 _ (List.mem_of_getElem? (i := 14) rfl)
theorem om_735 : (.methodLink RX7 106 yX7_fail : Cond) ∈ Om := ot_30 _ (List.mem_of_getElem? (i := 15) rfl)
theorem om_736 : (.instanceMethod yX7_fail : Cond) ∈ Om := ot_30 _ (List.mem_of_getElem? (i := 16) rfl)
theorem om_737 : (.selects RX7 yX7_fail yX7_fail : Cond) ∈ Om := ot_30 _ (List.mem_of_getElem? (i := 17) rfl)
theorem om_738 : (.code yX7_readVariable cX7_readVariable 2 (some .int) : Cond) ∈ Om := ot_30 _ (List.mem_of_getElem? (i := 18) rfl)
theorem om_739 : (.methodLink RX7 134 yX7_readVariable : Cond) ∈ Om := ot_30 _ (List.mem_of_getElem? (i := 19) rfl)
theorem om_740 : (.instanceMethod yX7_readVariable : Cond) ∈ Om := ot_30 _ (List.mem_of_getElem? (i := 20) rfl)
theorem om_741 : (.selects RX7 yX7_readVariable yX7_readVariable : Cond) ∈ Om := ot_30 _ (List.mem_of_getElem? (i := 21) rfl)
theorem om_742 : (.code yX7_readPair cX7_readPair 7 (some .boolean) : Cond) ∈ Om := ot_30 _ (List.mem_of_getElem? (i := 22) rfl)
theorem om_743 : (.methodLink RX7 120 yX7_readPair : Cond) ∈ Om := ot_30 _ (List.mem_of_getElem? (i := 23) rfl)
theorem om_744 : (.instanceMethod yX7_readPair : Cond) ∈ Om := ot_31 _ (List.mem_of_getElem? (i := 0) rfl)
theorem om_745 : (.selects RX7 yX7_readPair yX7_readPair : Cond) ∈ Om := ot_31 _ (List.mem_of_getElem? (i := 1) rfl)
theorem om_746 : (.code yX7_readPart cX7_readPart 5 (some .boolean) : Cond) ∈ Om := ot_31 _ (List.mem_of_getElem? (i := 2) rfl)
theorem om_747 : (.methodLink RX7 127 yX7_readPart : Cond) ∈ Om := ot_31 _ (List.mem_of_getElem? (i := 3) rfl)
theorem om_748 : (.instanceMethod yX7_readPart : Cond) ∈ Om := ot_31 _ (List.mem_of_getElem? (i := 4) rfl)
theorem om_749 : (.selects RX7 yX7_readPart yX7_readPart : Cond) ∈ Om := ot_31 _ (List.mem_of_getElem? (i := 5) rfl)
theorem om_750 : (.code yX7_readBody cX7_readBody 2 (some .boolean) : Cond) ∈ Om := ot_31 _ (List.mem_of_getElem? (i := 6) rfl)
theorem om_751 : (.methodLink RX7 124 yX7_readBody : Cond) ∈ Om := ot_31 _ (List.mem_of_getElem? (i := 7) rfl)
theorem om_752 : (.instanceMethod yX7_readBody : Cond) ∈ Om := ot_31 _ (List.mem_of_getElem? (i := 8) rfl)
theorem om_753 : (.selects RX7 yX7_readBody yX7_readBody : Cond) ∈ Om := ot_31 _ (List.mem_of_getElem? (i := 9) rfl)
theorem om_754 : (.code yX7_readRule cX7_readRule 3 (some .boolean) : Cond) ∈ Om := ot_31 _ (List.mem_of_getElem? (i := 10) rfl)
theorem om_755 : (.methodLink RX7 89 yX7_readRule : Cond) ∈ Om := ot_31 _ (List.mem_of_getElem? (i := 11) rfl)
theorem om_756 : (.instanceMethod yX7_readRule : Cond) ∈ Om := ot_31 _ (List.mem_of_getElem? (i := 12) rfl)
theorem om_757 : (.selects RX7 yX7_readRule yX7_readRule : Cond) ∈ Om := ot_31 _ (List.mem_of_getElem? (i := 13) rfl)
theorem om_758 : (.methodLink RX9 53 arraycopyName : Cond) ∈ Om := ot_31 _ (List.mem_of_getElem? (i := 14) rfl)
theorem om_759 : (.methodLink RX9 59 yJ7_fill_53178 : Cond) ∈ Om := ot_31 _ (List.mem_of_getElem? (i := 15) rfl)
theorem om_760 : (.methodLink RX10 73 arraycopyName : Cond) ∈ Om := ot_31 _ (List.mem_of_getElem? (i := 16) rfl)
theorem om_761 : (.code yX10_firstByte cX10_firstByte 8 (some .int) : Cond) ∈ Om := ot_31 _ (List.mem_of_getElem? (i := 17) rfl)
theorem om_762 : (.methodLink RX10 79 yX10_firstByte : Cond) ∈ Om := ot_31 _ (List.mem_of_getElem? (i := 18) rfl)
theorem om_763 : (.instanceMethod yX10_firstByte : Cond) ∈ Om := ot_31 _ (List.mem_of_getElem? (i := 19) rfl)
theorem om_764 : (.selects RX10 yX10_firstByte yX10_firstByte : Cond) ∈ Om := ot_31 _ (List.mem_of_getElem? (i := 20) rfl)
theorem om_765 : (.code yX9_putReady cX9_putReady 4 none : Cond) ∈ Om := ot_31 _ (List.mem_of_getElem? (i := 21) rfl)
theorem om_766 : (.methodLink RX11 102 yX9_putReady : Cond) ∈ Om := ot_31 _ (List.mem_of_getElem? (i := 22) rfl)
theorem om_767 : (.instanceMethod yX9_putReady : Cond) ∈ Om := ot_31 _ (List.mem_of_getElem? (i := 23) rfl)
theorem om_768 : (.selects RX9 yX9_putReady yX9_putReady : Cond) ∈ Om := ot_32 _ (List.mem_of_getElem? (i := 0) rfl)
theorem om_769 : (.code yX9_takeReady cX9_takeReady 2 (some .int) : Cond) ∈ Om := ot_32 _ (List.mem_of_getElem? (i := 1) rfl)
theorem om_770 : (.methodLink RX11 106 yX9_takeReady : Cond) ∈ Om := ot_32 _ (List.mem_of_getElem? (i := 2) rfl)
theorem om_771 : (.instanceMethod yX9_takeReady : Cond) ∈ Om := ot_32 _ (List.mem_of_getElem? (i := 3) rfl)
theorem om_772 : (.selects RX9 yX9_takeReady yX9_takeReady : Cond) ∈ Om := ot_32 _ (List.mem_of_getElem? (i := 4) rfl)
theorem om_773 : (.classLink RX11 120 "java/lang/IndexOutOfBoundsException" : Cond) ∈ Om := ot_32 _ (List.mem_of_getElem? (i := 5) rfl)
theorem om_774 : (.initialized "java/lang/IndexOutOfBoundsException" : Cond) ∈ Om := ot_32 _ (List.mem_of_getElem? (i := 6) rfl)
theorem om_775 : (.code yX9_wholeName cX9_wholeName 1 (some .long) : Cond) ∈ Om := ot_32 _ (List.mem_of_getElem? (i := 7) rfl)
theorem om_776 : (.methodLink RX11 123 yX9_wholeName : Cond) ∈ Om := ot_32 _ (List.mem_of_getElem? (i := 8) rfl)
theorem om_777 : (.instanceMethod yX9_wholeName : Cond) ∈ Om := ot_32 _ (List.mem_of_getElem? (i := 9) rfl)
theorem om_778 : (.selects RX9 yX9_wholeName yX9_wholeName : Cond) ∈ Om := ot_32 _ (List.mem_of_getElem? (i := 10) rfl)
theorem om_779 : (.classLink RX11 137 "java/lang/IllegalStateException" : Cond) ∈ Om := ot_32 _ (List.mem_of_getElem? (i := 11) rfl)
theorem om_780 : (.initialized "java/lang/IllegalStateException" : Cond) ∈ Om := ot_32 _ (List.mem_of_getElem? (i := 12) rfl)
theorem om_781 : (.code yX10_hasName cX10_hasName 5 (some .boolean) : Cond) ∈ Om := ot_32 _ (List.mem_of_getElem? (i := 13) rfl)
theorem om_782 : (.methodLink RX11 133 yX10_hasName : Cond) ∈ Om := ot_32 _ (List.mem_of_getElem? (i := 14) rfl)
theorem om_783 : (.instanceMethod yX10_hasName : Cond) ∈ Om := ot_32 _ (List.mem_of_getElem? (i := 15) rfl)
theorem om_784 : (.selects RX10 yX10_hasName yX10_hasName : Cond) ∈ Om := ot_32 _ (List.mem_of_getElem? (i := 16) rfl)
theorem om_785 : (.code yX10_addClass cX10_addClass 6 (some .int) : Cond) ∈ Om := ot_32 _ (List.mem_of_getElem? (i := 17) rfl)
theorem om_786 : (.methodLink RX11 140 yX10_addClass : Cond) ∈ Om := ot_32 _ (List.mem_of_getElem? (i := 18) rfl)
theorem om_787 : (.instanceMethod yX10_addClass : Cond) ∈ Om := ot_32 _ (List.mem_of_getElem? (i := 19) rfl)
theorem om_788 : (.selects RX10 yX10_addClass yX10_addClass : Cond) ∈ Om := ot_32 _ (List.mem_of_getElem? (i := 20) rfl)
theorem om_789 : (.classLink RX11 127 "java/lang/IllegalArgumentException" : Cond) ∈ Om := ot_32 _ (List.mem_of_getElem? (i := 21) rfl)
theorem om_790 : (.initialized "java/lang/IllegalArgumentException" : Cond) ∈ Om := ot_32 _ (List.mem_of_getElem? (i := 22) rfl)
theorem om_791 : (.methodLink RX11 116 yX10_isClass : Cond) ∈ Om := ot_32 _ (List.mem_of_getElem? (i := 23) rfl)
theorem om_792 : (.code yX10_hasFieldNamed cX10_hasFieldNamed 5 (some .boolean) : Cond) ∈ Om := ot_33 _ (List.mem_of_getElem? (i := 0) rfl)
theorem om_793 : (.methodLink RX11 154 yX10_hasFieldNamed : Cond) ∈ Om := ot_33 _ (List.mem_of_getElem? (i := 1) rfl)
theorem om_794 : (.instanceMethod yX10_hasFieldNamed : Cond) ∈ Om := ot_33 _ (List.mem_of_getElem? (i := 2) rfl)
theorem om_795 : (.selects RX10 yX10_hasFieldNamed yX10_hasFieldNamed : Cond) ∈ Om := ot_33 _ (List.mem_of_getElem? (i := 3) rfl)
theorem om_796 : (.code yX10_addField cX10_addField 10 (some .int) : Cond) ∈ Om := ot_33 _ (List.mem_of_getElem? (i := 4) rfl)
theorem om_797 : (.methodLink RX11 157 yX10_addField : Cond) ∈ Om := ot_33 _ (List.mem_of_getElem? (i := 5) rfl)
theorem om_798 : (.instanceMethod yX10_addField : Cond) ∈ Om := ot_33 _ (List.mem_of_getElem? (i := 6) rfl)
theorem om_799 : (.selects RX10 yX10_addField yX10_addField : Cond) ∈ Om := ot_33 _ (List.mem_of_getElem? (i := 7) rfl)
theorem om_800 : (.methodLink RX11 165 yX10_firstValue : Cond) ∈ Om := ot_33 _ (List.mem_of_getElem? (i := 8) rfl)
theorem om_801 : (.methodLink RX11 144 yX10_isType : Cond) ∈ Om := ot_33 _ (List.mem_of_getElem? (i := 9) rfl)
theorem om_802 : (.methodLink RX11 178 yX10_sizeOf : Cond) ∈ Om := ot_33 _ (List.mem_of_getElem? (i := 10) rfl)
theorem om_803 : (.code yX2_countOf cX2_countOf 4 (some .int) : Cond) ∈ Om := ot_33 _ (List.mem_of_getElem? (i := 11) rfl)
theorem om_804 : (.methodLink RX11 185 yX2_countOf : Cond) ∈ Om := ot_33 _ (List.mem_of_getElem? (i := 12) rfl)
theorem om_805 : (.instanceMethod yX2_countOf : Cond) ∈ Om := ot_33 _ (List.mem_of_getElem? (i := 13) rfl)
theorem om_806 : (.selects RX2 yX2_countOf yX2_countOf : Cond) ∈ Om := ot_33 _ (List.mem_of_getElem? (i := 14) rfl)
theorem om_807 : (.code yX10_hasField cX10_hasField 3 (some .boolean) : Cond) ∈ Om := ot_33 _ (List.mem_of_getElem? (i := 15) rfl)
theorem om_808 : (.methodLink RX11 188 yX10_hasField : Cond) ∈ Om := ot_33 _ (List.mem_of_getElem? (i := 16) rfl)
theorem om_809 : (.instanceMethod yX10_hasField : Cond) ∈ Om := ot_33 _ (List.mem_of_getElem? (i := 17) rfl)
theorem om_810 : (.selects RX10 yX10_hasField yX10_hasField : Cond) ∈ Om := ot_33 _ (List.mem_of_getElem? (i := 18) rfl)
theorem om_811 : (.methodLink RX11 204 yX10_firstByte : Cond) ∈ Om := ot_33 _ (List.mem_of_getElem? (i := 19) rfl)
theorem om_812 : (.methodLink RX11 207 yX10_isArray : Cond) ∈ Om := ot_33 _ (List.mem_of_getElem? (i := 20) rfl)
theorem om_813 : (.methodLink RX11 210 yX10_slotsOf : Cond) ∈ Om := ot_33 _ (List.mem_of_getElem? (i := 21) rfl)
theorem om_814 : (.methodLink RX11 213 yX2_hasRoom : Cond) ∈ Om := ot_33 _ (List.mem_of_getElem? (i := 22) rfl)
theorem om_815 : (.methodLink RX11 216 yX2_create : Cond) ∈ Om := ot_33 _ (List.mem_of_getElem? (i := 23) rfl)
theorem om_816 : (.methodLink RX11 219 yX2_isThere : Cond) ∈ Om := ot_34 _ (List.mem_of_getElem? (i := 0) rfl)
theorem om_817 : (.code yX2_rootPlace cX2_rootPlace 3 (some .int) : Cond) ∈ Om := ot_34 _ (List.mem_of_getElem? (i := 1) rfl)
theorem om_818 : (.methodLink RX11 225 yX2_rootPlace : Cond) ∈ Om := ot_34 _ (List.mem_of_getElem? (i := 2) rfl)
theorem om_819 : (.instanceMethod yX2_rootPlace : Cond) ∈ Om := ot_34 _ (List.mem_of_getElem? (i := 3) rfl)
theorem om_820 : (.selects RX2 yX2_rootPlace yX2_rootPlace : Cond) ∈ Om := ot_34 _ (List.mem_of_getElem? (i := 4) rfl)
theorem om_821 : (.code yX2_dropRoot cX2_dropRoot 3 none : Cond) ∈ Om := ot_34 _ (List.mem_of_getElem? (i := 5) rfl)
theorem om_822 : (.methodLink RX11 234 yX2_dropRoot : Cond) ∈ Om := ot_34 _ (List.mem_of_getElem? (i := 6) rfl)
theorem om_823 : (.instanceMethod yX2_dropRoot : Cond) ∈ Om := ot_34 _ (List.mem_of_getElem? (i := 7) rfl)
theorem om_824 : (.selects RX2 yX2_dropRoot yX2_dropRoot : Cond) ∈ Om := ot_34 _ (List.mem_of_getElem? (i := 8) rfl)
theorem om_825 : (.classLink RX11 222 "java/util/NoSuchElementException" : Cond) ∈ Om := ot_34 _ (List.mem_of_getElem? (i := 9) rfl)
theorem om_826 : (.initialized "java/util/NoSuchElementException" : Cond) ∈ Om := ot_34 _ (List.mem_of_getElem? (i := 10) rfl)
theorem om_827 : (.code yX2_hasSlot cX2_hasSlot 3 (some .boolean) : Cond) ∈ Om := ot_34 _ (List.mem_of_getElem? (i := 11) rfl)
theorem om_828 : (.methodLink RX11 238 yX2_hasSlot : Cond) ∈ Om := ot_34 _ (List.mem_of_getElem? (i := 12) rfl)
theorem om_829 : (.instanceMethod yX2_hasSlot : Cond) ∈ Om := ot_34 _ (List.mem_of_getElem? (i := 13) rfl)
theorem om_830 : (.selects RX2 yX2_hasSlot yX2_hasSlot : Cond) ∈ Om := ot_34 _ (List.mem_of_getElem? (i := 14) rfl)
theorem om_831 : (.methodLink RX11 244 yX10_kindAt : Cond) ∈ Om := ot_34 _ (List.mem_of_getElem? (i := 15) rfl)
theorem om_832 : (.methodLink RX11 247 yX10_linkAt : Cond) ∈ Om := ot_34 _ (List.mem_of_getElem? (i := 16) rfl)
theorem om_833 : (.code yX2_isValue cX2_isValue 5 (some .boolean) : Cond) ∈ Om := ot_34 _ (List.mem_of_getElem? (i := 17) rfl)
theorem om_834 : (.methodLink RX11 250 yX2_isValue : Cond) ∈ Om := ot_34 _ (List.mem_of_getElem? (i := 18) rfl)
theorem om_835 : (.instanceMethod yX2_isValue : Cond) ∈ Om := ot_34 _ (List.mem_of_getElem? (i := 19) rfl)
theorem om_836 : (.selects RX2 yX2_isValue yX2_isValue : Cond) ∈ Om := ot_34 _ (List.mem_of_getElem? (i := 20) rfl)
theorem om_837 : (.methodLink RX11 254 yX3_writeSlot : Cond) ∈ Om := ot_34 _ (List.mem_of_getElem? (i := 21) rfl)
theorem om_838 : (.code yX4_run cX4_run 5 (some .boolean) : Cond) ∈ Om := ot_34 _ (List.mem_of_getElem? (i := 22) rfl)
theorem om_839 : (.methodLink RX11 347 yX4_run : Cond) ∈ Om := ot_34 _ (List.mem_of_getElem? (i := 23) rfl)
theorem om_840 : (.instanceMethod yX4_run : Cond) ∈ Om := ot_35 _ (List.mem_of_getElem? (i := 0) rfl)
theorem om_841 : (.selects RX4 yX4_run yX4_run : Cond) ∈ Om := ot_35 _ (List.mem_of_getElem? (i := 1) rfl)
theorem om_842 : (.code yX4_saysTrue cX4_saysTrue 1 (some .boolean) : Cond) ∈ Om := ot_35 _ (List.mem_of_getElem? (i := 2) rfl)
theorem om_843 : (.methodLink RX11 351 yX4_saysTrue : Cond) ∈ Om := ot_35 _ (List.mem_of_getElem? (i := 3) rfl)
theorem om_844 : (.instanceMethod yX4_saysTrue : Cond) ∈ Om := ot_35 _ (List.mem_of_getElem? (i := 4) rfl)
theorem om_845 : (.selects RX4 yX4_saysTrue yX4_saysTrue : Cond) ∈ Om := ot_35 _ (List.mem_of_getElem? (i := 5) rfl)
theorem om_846 : (.code yX5_takeFrom cX5_takeFrom 4 none : Cond) ∈ Om := ot_35 _ (List.mem_of_getElem? (i := 6) rfl)
theorem om_847 : (.methodLink RX11 343 yX5_takeFrom : Cond) ∈ Om := ot_35 _ (List.mem_of_getElem? (i := 7) rfl)
theorem om_848 : (.instanceMethod yX5_takeFrom : Cond) ∈ Om := ot_35 _ (List.mem_of_getElem? (i := 8) rfl)
theorem om_849 : (.selects RX5 yX5_takeFrom yX5_takeFrom : Cond) ∈ Om := ot_35 _ (List.mem_of_getElem? (i := 9) rfl)
theorem om_850 : (.code yX11_checkPromises cX11_checkPromises 4 none : Cond) ∈ Om := ot_35 _ (List.mem_of_getElem? (i := 10) rfl)
theorem om_851 : (.methodLink RX11 258 yX11_checkPromises : Cond) ∈ Om := ot_35 _ (List.mem_of_getElem? (i := 11) rfl)
theorem om_852 : (.instanceMethod yX11_checkPromises : Cond) ∈ Om := ot_35 _ (List.mem_of_getElem? (i := 12) rfl)
theorem om_853 : (.selects RX11 yX11_checkPromises yX11_checkPromises : Cond) ∈ Om := ot_35 _ (List.mem_of_getElem? (i := 13) rfl)
theorem om_854 : (.initialized RX11 : Cond) ∈ Om := ot_35 _ (List.mem_of_getElem? (i := 14) rfl)
theorem om_855 : (.code yX10_staticField cX10_staticField 5 (some .int) : Cond) ∈ Om := ot_35 _ (List.mem_of_getElem? (i := 15) rfl)
theorem om_856 : (.methodLink RX11 261 yX10_staticField : Cond) ∈ Om := ot_35 _ (List.mem_of_getElem? (i := 16) rfl)
theorem om_857 : (.instanceMethod yX10_staticField : Cond) ∈ Om := ot_35 _ (List.mem_of_getElem? (i := 17) rfl)
theorem om_858 : (.selects RX10 yX10_staticField yX10_staticField : Cond) ∈ Om := ot_35 _ (List.mem_of_getElem? (i := 18) rfl)
theorem om_859 : (.methodLink RX11 264 yX3_writeStatic : Cond) ∈ Om := ot_35 _ (List.mem_of_getElem? (i := 19) rfl)
theorem om_860 : (.code yX3_forgetUndo cX3_forgetUndo 1 none : Cond) ∈ Om := ot_35 _ (List.mem_of_getElem? (i := 20) rfl)
theorem om_861 : (.methodLink RX11 277 yX3_forgetUndo : Cond) ∈ Om := ot_35 _ (List.mem_of_getElem? (i := 21) rfl)
theorem om_862 : (.instanceMethod yX3_forgetUndo : Cond) ∈ Om := ot_35 _ (List.mem_of_getElem? (i := 22) rfl)
theorem om_863 : (.selects RX3 yX3_forgetUndo yX3_forgetUndo : Cond) ∈ Om := ot_35 _ (List.mem_of_getElem? (i := 23) rfl)
theorem om_864 : (.code yX2_dropUnreached cX2_dropUnreached 6 (some .int) : Cond) ∈ Om := ot_36 _ (List.mem_of_getElem? (i := 0) rfl)
theorem om_865 : (.methodLink RX11 280 yX2_dropUnreached : Cond) ∈ Om := ot_36 _ (List.mem_of_getElem? (i := 1) rfl)
theorem om_866 : (.instanceMethod yX2_dropUnreached : Cond) ∈ Om := ot_36 _ (List.mem_of_getElem? (i := 2) rfl)
theorem om_867 : (.selects RX2 yX2_dropUnreached yX2_dropUnreached : Cond) ∈ Om := ot_36 _ (List.mem_of_getElem? (i := 3) rfl)
theorem om_868 : (.code yX3_takeBack cX3_takeBack 3 (some .int) : Cond) ∈ Om := ot_36 _ (List.mem_of_getElem? (i := 4) rfl)
theorem om_869 : (.methodLink RX11 284 yX3_takeBack : Cond) ∈ Om := ot_36 _ (List.mem_of_getElem? (i := 5) rfl)
theorem om_870 : (.instanceMethod yX3_takeBack : Cond) ∈ Om := ot_36 _ (List.mem_of_getElem? (i := 6) rfl)
theorem om_871 : (.selects RX3 yX3_takeBack yX3_takeBack : Cond) ∈ Om := ot_36 _ (List.mem_of_getElem? (i := 7) rfl)
theorem om_872 : (.code yX2_canSwap cX2_canSwap 7 (some .boolean) : Cond) ∈ Om := ot_36 _ (List.mem_of_getElem? (i := 8) rfl)
theorem om_873 : (.methodLink RX11 288 yX2_canSwap : Cond) ∈ Om := ot_36 _ (List.mem_of_getElem? (i := 9) rfl)
theorem om_874 : (.instanceMethod yX2_canSwap : Cond) ∈ Om := ot_36 _ (List.mem_of_getElem? (i := 10) rfl)
theorem om_875 : (.selects RX2 yX2_canSwap yX2_canSwap : Cond) ∈ Om := ot_36 _ (List.mem_of_getElem? (i := 11) rfl)
theorem om_876 : (.code yX3_swapSlots cX3_swapSlots 9 (some .int) : Cond) ∈ Om := ot_36 _ (List.mem_of_getElem? (i := 12) rfl)
theorem om_877 : (.methodLink RX11 291 yX3_swapSlots : Cond) ∈ Om := ot_36 _ (List.mem_of_getElem? (i := 13) rfl)
theorem om_878 : (.instanceMethod yX3_swapSlots : Cond) ∈ Om := ot_36 _ (List.mem_of_getElem? (i := 14) rfl)
theorem om_879 : (.selects RX3 yX3_swapSlots yX3_swapSlots : Cond) ∈ Om := ot_36 _ (List.mem_of_getElem? (i := 15) rfl)
theorem om_880 : (.code yX3_swapStatics cX3_swapStatics 6 (some .int) : Cond) ∈ Om := ot_36 _ (List.mem_of_getElem? (i := 16) rfl)
theorem om_881 : (.methodLink RX11 295 yX3_swapStatics : Cond) ∈ Om := ot_36 _ (List.mem_of_getElem? (i := 17) rfl)
theorem om_882 : (.instanceMethod yX3_swapStatics : Cond) ∈ Om := ot_36 _ (List.mem_of_getElem? (i := 18) rfl)
theorem om_883 : (.selects RX3 yX3_swapStatics yX3_swapStatics : Cond) ∈ Om := ot_36 _ (List.mem_of_getElem? (i := 19) rfl)
theorem om_884 : (.code yX2_swapRoots cX2_swapRoots 4 none : Cond) ∈ Om := ot_36 _ (List.mem_of_getElem? (i := 20) rfl)
theorem om_885 : (.methodLink RX11 298 yX2_swapRoots : Cond) ∈ Om := ot_36 _ (List.mem_of_getElem? (i := 21) rfl)
theorem om_886 : (.instanceMethod yX2_swapRoots : Cond) ∈ Om := ot_36 _ (List.mem_of_getElem? (i := 22) rfl)
theorem om_887 : (.selects RX2 yX2_swapRoots yX2_swapRoots : Cond) ∈ Om := ot_36 _ (List.mem_of_getElem? (i := 23) rfl)
theorem om_888 : (.code yX2_duplicate cX2_duplicate 7 (some .int) : Cond) ∈ Om := ot_37 _ (List.mem_of_getElem? (i := 0) rfl)
theorem om_889 : (.methodLink RX11 304 yX2_duplicate : Cond) ∈ Om := ot_37 _ (List.mem_of_getElem? (i := 1) rfl)
theorem om_890 : (.instanceMethod yX2_duplicate : Cond) ∈ Om := ot_37 _ (List.mem_of_getElem? (i := 2) rfl)
theorem om_891 : (.selects RX2 yX2_duplicate yX2_duplicate : Cond) ∈ Om := ot_37 _ (List.mem_of_getElem? (i := 3) rfl)
theorem om_892 : (.code yX3_addWatch cX3_addWatch 4 (some .int) : Cond) ∈ Om := ot_37 _ (List.mem_of_getElem? (i := 4) rfl)
theorem om_893 : (.methodLink RX11 313 yX3_addWatch : Cond) ∈ Om := ot_37 _ (List.mem_of_getElem? (i := 5) rfl)
theorem om_894 : (.instanceMethod yX3_addWatch : Cond) ∈ Om := ot_37 _ (List.mem_of_getElem? (i := 6) rfl)
theorem om_895 : (.selects RX3 yX3_addWatch yX3_addWatch : Cond) ∈ Om := ot_37 _ (List.mem_of_getElem? (i := 7) rfl)
theorem om_896 : (.code yX11_rows cX11_rows 2 (some .int) : Cond) ∈ Om := ot_37 _ (List.mem_of_getElem? (i := 8) rfl)
theorem om_897 : (.methodLink RX11 320 yX11_rows : Cond) ∈ Om := ot_37 _ (List.mem_of_getElem? (i := 9) rfl)
theorem om_898 : (.instanceMethod yX11_rows : Cond) ∈ Om := ot_37 _ (List.mem_of_getElem? (i := 10) rfl)
theorem om_899 : (.selects RX11 yX11_rows yX11_rows : Cond) ∈ Om := ot_37 _ (List.mem_of_getElem? (i := 11) rfl)
theorem om_900 : (.code yX3_rowPart cX3_rowPart 4 (some .long) : Cond) ∈ Om := ot_37 _ (List.mem_of_getElem? (i := 12) rfl)
theorem om_901 : (.methodLink RX11 323 yX3_rowPart : Cond) ∈ Om := ot_37 _ (List.mem_of_getElem? (i := 13) rfl)
theorem om_902 : (.instanceMethod yX3_rowPart : Cond) ∈ Om := ot_37 _ (List.mem_of_getElem? (i := 14) rfl)
theorem om_903 : (.selects RX3 yX3_rowPart yX3_rowPart : Cond) ∈ Om := ot_37 _ (List.mem_of_getElem? (i := 15) rfl)
theorem om_904 : (.code yX6_readPromise cX6_readPromise 1 (some .boolean) : Cond) ∈ Om := ot_37 _ (List.mem_of_getElem? (i := 16) rfl)
theorem om_905 : (.methodLink RX11 330 yX6_readPromise : Cond) ∈ Om := ot_37 _ (List.mem_of_getElem? (i := 17) rfl)
theorem om_906 : (.instanceMethod yX6_readPromise : Cond) ∈ Om := ot_37 _ (List.mem_of_getElem? (i := 18) rfl)
theorem om_907 : (.selects RX6 yX6_readPromise yX6_readPromise : Cond) ∈ Om := ot_37 _ (List.mem_of_getElem? (i := 19) rfl)
theorem om_908 : (.code yX11_tellFault cX11_tellFault 3 none : Cond) ∈ Om := ot_37 _ (List.mem_of_getElem? (i := 20) rfl)
theorem om_909 : (.methodLink RX11 340 yX11_tellFault : Cond) ∈ Om := ot_37 _ (List.mem_of_getElem? (i := 21) rfl)
theorem om_910 : (.instanceMethod yX11_tellFault : Cond) ∈ Om := ot_37 _ (List.mem_of_getElem? (i := 22) rfl)
theorem om_911 : (.selects RX11 yX11_tellFault yX11_tellFault : Cond) ∈ Om := ot_37 _ (List.mem_of_getElem? (i := 23) rfl)
theorem om_912 : (.code yX11_isPicture cX11_isPicture 1 (some .boolean) : Cond) ∈ Om := ot_38 _ (List.mem_of_getElem? (i := 0) rfl)
theorem om_913 : (.methodLink RX11 412 yX11_isPicture : Cond) ∈ Om := ot_38 _ (List.mem_of_getElem? (i := 1) rfl)
theorem om_914 : (.static yX11_isPicture : Cond) ∈ Om := ot_38 _ (List.mem_of_getElem? (i := 2) rfl)
theorem om_915 : (.code yX11_needPicture cX11_needPicture 1 none : Cond) ∈ Om := ot_38 _ (List.mem_of_getElem? (i := 3) rfl)
theorem om_916 : (.methodLink RX11 354 yX11_needPicture : Cond) ∈ Om := ot_38 _ (List.mem_of_getElem? (i := 4) rfl)
theorem om_917 : (.static yX11_needPicture : Cond) ∈ Om := ot_38 _ (List.mem_of_getElem? (i := 5) rfl)
theorem om_918 : (.code yX11_isThing cX11_isThing 3 (some .boolean) : Cond) ∈ Om := ot_38 _ (List.mem_of_getElem? (i := 6) rfl)
theorem om_919 : (.methodLink RX11 360 yX11_isThing : Cond) ∈ Om := ot_38 _ (List.mem_of_getElem? (i := 7) rfl)
theorem om_920 : (.instanceMethod yX11_isThing : Cond) ∈ Om := ot_38 _ (List.mem_of_getElem? (i := 8) rfl)
theorem om_921 : (.selects RX11 yX11_isThing yX11_isThing : Cond) ∈ Om := ot_38 _ (List.mem_of_getElem? (i := 9) rfl)
theorem om_922 : (.code yX5_holdersOf cX5_holdersOf 2 (some .int) : Cond) ∈ Om := ot_38 _ (List.mem_of_getElem? (i := 10) rfl)
theorem om_923 : (.methodLink RX11 377 yX5_holdersOf : Cond) ∈ Om := ot_38 _ (List.mem_of_getElem? (i := 11) rfl)
theorem om_924 : (.instanceMethod yX5_holdersOf : Cond) ∈ Om := ot_38 _ (List.mem_of_getElem? (i := 12) rfl)
theorem om_925 : (.selects RX5 yX5_holdersOf yX5_holdersOf : Cond) ∈ Om := ot_38 _ (List.mem_of_getElem? (i := 13) rfl)
theorem om_926 : (.code yX5_dominatorOf cX5_dominatorOf 2 (some .int) : Cond) ∈ Om := ot_38 _ (List.mem_of_getElem? (i := 14) rfl)
theorem om_927 : (.methodLink RX11 380 yX5_dominatorOf : Cond) ∈ Om := ot_38 _ (List.mem_of_getElem? (i := 15) rfl)
theorem om_928 : (.instanceMethod yX5_dominatorOf : Cond) ∈ Om := ot_38 _ (List.mem_of_getElem? (i := 16) rfl)
theorem om_929 : (.selects RX5 yX5_dominatorOf yX5_dominatorOf : Cond) ∈ Om := ot_38 _ (List.mem_of_getElem? (i := 17) rfl)
theorem om_930 : (.code yX5_keptBy cX5_keptBy 2 (some .int) : Cond) ∈ Om := ot_38 _ (List.mem_of_getElem? (i := 18) rfl)
theorem om_931 : (.methodLink RX11 383 yX5_keptBy : Cond) ∈ Om := ot_38 _ (List.mem_of_getElem? (i := 19) rfl)
theorem om_932 : (.instanceMethod yX5_keptBy : Cond) ∈ Om := ot_38 _ (List.mem_of_getElem? (i := 20) rfl)
theorem om_933 : (.selects RX5 yX5_keptBy yX5_keptBy : Cond) ∈ Om := ot_38 _ (List.mem_of_getElem? (i := 21) rfl)
theorem om_934 : (.code yX5_dominatedBy cX5_dominatedBy 2 (some .int) : Cond) ∈ Om := ot_38 _ (List.mem_of_getElem? (i := 22) rfl)
theorem om_935 : (.methodLink RX11 386 yX5_dominatedBy : Cond) ∈ Om := ot_38 _ (List.mem_of_getElem? (i := 23) rfl)
theorem om_936 : (.instanceMethod yX5_dominatedBy : Cond) ∈ Om := ot_39 _ (List.mem_of_getElem? (i := 0) rfl)
theorem om_937 : (.selects RX5 yX5_dominatedBy yX5_dominatedBy : Cond) ∈ Om := ot_39 _ (List.mem_of_getElem? (i := 1) rfl)
theorem om_938 : (.code yX5_ringOf cX5_ringOf 2 (some .int) : Cond) ∈ Om := ot_39 _ (List.mem_of_getElem? (i := 2) rfl)
theorem om_939 : (.methodLink RX11 389 yX5_ringOf : Cond) ∈ Om := ot_39 _ (List.mem_of_getElem? (i := 3) rfl)
theorem om_940 : (.instanceMethod yX5_ringOf : Cond) ∈ Om := ot_39 _ (List.mem_of_getElem? (i := 4) rfl)
theorem om_941 : (.selects RX5 yX5_ringOf yX5_ringOf : Cond) ∈ Om := ot_39 _ (List.mem_of_getElem? (i := 5) rfl)
theorem om_942 : (.code yX5_twinOf cX5_twinOf 2 (some .int) : Cond) ∈ Om := ot_39 _ (List.mem_of_getElem? (i := 6) rfl)
theorem om_943 : (.methodLink RX11 392 yX5_twinOf : Cond) ∈ Om := ot_39 _ (List.mem_of_getElem? (i := 7) rfl)
theorem om_944 : (.instanceMethod yX5_twinOf : Cond) ∈ Om := ot_39 _ (List.mem_of_getElem? (i := 8) rfl)
theorem om_945 : (.selects RX5 yX5_twinOf yX5_twinOf : Cond) ∈ Om := ot_39 _ (List.mem_of_getElem? (i := 9) rfl)
theorem om_946 : (.code yX5_ringCount cX5_ringCount 1 (some .int) : Cond) ∈ Om := ot_39 _ (List.mem_of_getElem? (i := 10) rfl)
theorem om_947 : (.methodLink RX11 415 yX5_ringCount : Cond) ∈ Om := ot_39 _ (List.mem_of_getElem? (i := 11) rfl)
theorem om_948 : (.instanceMethod yX5_ringCount : Cond) ∈ Om := ot_39 _ (List.mem_of_getElem? (i := 12) rfl)
theorem om_949 : (.selects RX5 yX5_ringCount yX5_ringCount : Cond) ∈ Om := ot_39 _ (List.mem_of_getElem? (i := 13) rfl)
theorem om_950 : (.code yX5_twinCount cX5_twinCount 1 (some .int) : Cond) ∈ Om := ot_39 _ (List.mem_of_getElem? (i := 14) rfl)
theorem om_951 : (.methodLink RX11 418 yX5_twinCount : Cond) ∈ Om := ot_39 _ (List.mem_of_getElem? (i := 15) rfl)
theorem om_952 : (.instanceMethod yX5_twinCount : Cond) ∈ Om := ot_39 _ (List.mem_of_getElem? (i := 16) rfl)
theorem om_953 : (.selects RX5 yX5_twinCount yX5_twinCount : Cond) ∈ Om := ot_39 _ (List.mem_of_getElem? (i := 17) rfl)
theorem om_954 : (.code yX5_allSizes cX5_allSizes 4 (some .int) : Cond) ∈ Om := ot_39 _ (List.mem_of_getElem? (i := 18) rfl)
theorem om_955 : (.methodLink RX11 421 yX5_allSizes : Cond) ∈ Om := ot_39 _ (List.mem_of_getElem? (i := 19) rfl)
theorem om_956 : (.instanceMethod yX5_allSizes : Cond) ∈ Om := ot_39 _ (List.mem_of_getElem? (i := 20) rfl)
theorem om_957 : (.selects RX5 yX5_allSizes yX5_allSizes : Cond) ∈ Om := ot_39 _ (List.mem_of_getElem? (i := 21) rfl)
theorem om_958 : (.code yX5_doubledSizes cX5_doubledSizes 5 (some .int) : Cond) ∈ Om := ot_39 _ (List.mem_of_getElem? (i := 22) rfl)
theorem om_959 : (.methodLink RX11 425 yX5_doubledSizes : Cond) ∈ Om := ot_39 _ (List.mem_of_getElem? (i := 23) rfl)
theorem om_960 : (.instanceMethod yX5_doubledSizes : Cond) ∈ Om := ot_40 _ (List.mem_of_getElem? (i := 0) rfl)
theorem om_961 : (.selects RX5 yX5_doubledSizes yX5_doubledSizes : Cond) ∈ Om := ot_40 _ (List.mem_of_getElem? (i := 1) rfl)
theorem om_962 : (.code yX5_countOf cX5_countOf 4 (some .int) : Cond) ∈ Om := ot_40 _ (List.mem_of_getElem? (i := 2) rfl)
theorem om_963 : (.methodLink RX11 432 yX5_countOf : Cond) ∈ Om := ot_40 _ (List.mem_of_getElem? (i := 3) rfl)
theorem om_964 : (.instanceMethod yX5_countOf : Cond) ∈ Om := ot_40 _ (List.mem_of_getElem? (i := 4) rfl)
theorem om_965 : (.selects RX5 yX5_countOf yX5_countOf : Cond) ∈ Om := ot_40 _ (List.mem_of_getElem? (i := 5) rfl)
theorem om_966 : (.code yX5_countHeirs cX5_countHeirs 5 (some .int) : Cond) ∈ Om := ot_40 _ (List.mem_of_getElem? (i := 6) rfl)
theorem om_967 : (.methodLink RX11 428 yX5_countHeirs : Cond) ∈ Om := ot_40 _ (List.mem_of_getElem? (i := 7) rfl)
theorem om_968 : (.instanceMethod yX5_countHeirs : Cond) ∈ Om := ot_40 _ (List.mem_of_getElem? (i := 8) rfl)
theorem om_969 : (.selects RX5 yX5_countHeirs yX5_countHeirs : Cond) ∈ Om := ot_40 _ (List.mem_of_getElem? (i := 9) rfl)
theorem om_970 : (.code yX5_twinMember cX5_twinMember 3 (some .int) : Cond) ∈ Om := ot_40 _ (List.mem_of_getElem? (i := 10) rfl)
theorem om_971 : (.methodLink RX11 436 yX5_twinMember : Cond) ∈ Om := ot_40 _ (List.mem_of_getElem? (i := 11) rfl)
theorem om_972 : (.instanceMethod yX5_twinMember : Cond) ∈ Om := ot_40 _ (List.mem_of_getElem? (i := 12) rfl)
theorem om_973 : (.selects RX5 yX5_twinMember yX5_twinMember : Cond) ∈ Om := ot_40 _ (List.mem_of_getElem? (i := 13) rfl)
theorem om_974 : (.code yX5_ringMember cX5_ringMember 3 (some .int) : Cond) ∈ Om := ot_40 _ (List.mem_of_getElem? (i := 14) rfl)
theorem om_975 : (.methodLink RX11 433 yX5_ringMember : Cond) ∈ Om := ot_40 _ (List.mem_of_getElem? (i := 15) rfl)
theorem om_976 : (.instanceMethod yX5_ringMember : Cond) ∈ Om := ot_40 _ (List.mem_of_getElem? (i := 16) rfl)
theorem om_977 : (.selects RX5 yX5_ringMember yX5_ringMember : Cond) ∈ Om := ot_40 _ (List.mem_of_getElem? (i := 17) rfl)
theorem om_978 : (.code yX5_findLost cX5_findLost 4 (some .int) : Cond) ∈ Om := ot_40 _ (List.mem_of_getElem? (i := 18) rfl)
theorem om_979 : (.methodLink RX11 442 yX5_findLost : Cond) ∈ Om := ot_40 _ (List.mem_of_getElem? (i := 19) rfl)
theorem om_980 : (.instanceMethod yX5_findLost : Cond) ∈ Om := ot_40 _ (List.mem_of_getElem? (i := 20) rfl)
theorem om_981 : (.selects RX5 yX5_findLost yX5_findLost : Cond) ∈ Om := ot_40 _ (List.mem_of_getElem? (i := 21) rfl)
theorem om_982 : (.code yX5_listChanged cX5_listChanged 6 (some .int) : Cond) ∈ Om := ot_40 _ (List.mem_of_getElem? (i := 22) rfl)
theorem om_983 : (.methodLink RX11 458 yX5_listChanged : Cond) ∈ Om := ot_40 _ (List.mem_of_getElem? (i := 23) rfl)
theorem om_984 : (.instanceMethod yX5_listChanged : Cond) ∈ Om := ot_41 _ (List.mem_of_getElem? (i := 0) rfl)
theorem om_985 : (.selects RX5 yX5_listChanged yX5_listChanged : Cond) ∈ Om := ot_41 _ (List.mem_of_getElem? (i := 1) rfl)
theorem om_986 : (.code yX5_listMissing cX5_listMissing 5 (some .int) : Cond) ∈ Om := ot_41 _ (List.mem_of_getElem? (i := 2) rfl)
theorem om_987 : (.methodLink RX11 451 yX5_listMissing : Cond) ∈ Om := ot_41 _ (List.mem_of_getElem? (i := 3) rfl)
theorem om_988 : (.instanceMethod yX5_listMissing : Cond) ∈ Om := ot_41 _ (List.mem_of_getElem? (i := 4) rfl)
theorem om_989 : (.selects RX5 yX5_listMissing yX5_listMissing : Cond) ∈ Om := ot_41 _ (List.mem_of_getElem? (i := 5) rfl)
theorem om_990 : (.code yX5_isLike cX5_isLike 6 (some .boolean) : Cond) ∈ Om := ot_41 _ (List.mem_of_getElem? (i := 6) rfl)
theorem om_991 : (.methodLink RX11 461 yX5_isLike : Cond) ∈ Om := ot_41 _ (List.mem_of_getElem? (i := 7) rfl)
theorem om_992 : (.instanceMethod yX5_isLike : Cond) ∈ Om := ot_41 _ (List.mem_of_getElem? (i := 8) rfl)
theorem om_993 : (.selects RX5 yX5_isLike yX5_isLike : Cond) ∈ Om := ot_41 _ (List.mem_of_getElem? (i := 9) rfl)
theorem om_994 : (.code yX6_readQuestion cX6_readQuestion 2 (some .boolean) : Cond) ∈ Om := ot_41 _ (List.mem_of_getElem? (i := 10) rfl)
theorem om_995 : (.methodLink RX11 467 yX6_readQuestion : Cond) ∈ Om := ot_41 _ (List.mem_of_getElem? (i := 11) rfl)
theorem om_996 : (.instanceMethod yX6_readQuestion : Cond) ∈ Om := ot_41 _ (List.mem_of_getElem? (i := 12) rfl)
theorem om_997 : (.selects RX6 yX6_readQuestion yX6_readQuestion : Cond) ∈ Om := ot_41 _ (List.mem_of_getElem? (i := 13) rfl)
theorem om_998 : (.code yX7_readAll cX7_readAll 2 (some .boolean) : Cond) ∈ Om := ot_41 _ (List.mem_of_getElem? (i := 14) rfl)
theorem om_999 : (.methodLink RX11 482 yX7_readAll : Cond) ∈ Om := ot_41 _ (List.mem_of_getElem? (i := 15) rfl)
theorem om_1000 : (.instanceMethod yX7_readAll : Cond) ∈ Om := ot_41 _ (List.mem_of_getElem? (i := 16) rfl)
theorem om_1001 : (.selects RX7 yX7_readAll yX7_readAll : Cond) ∈ Om := ot_41 _ (List.mem_of_getElem? (i := 17) rfl)
theorem om_1002 : (.code yX1_workOut cX1_workOut 5 none : Cond) ∈ Om := ot_41 _ (List.mem_of_getElem? (i := 18) rfl)
theorem om_1003 : (.methodLink RX11 487 yX1_workOut : Cond) ∈ Om := ot_41 _ (List.mem_of_getElem? (i := 19) rfl)
theorem om_1004 : (.instanceMethod yX1_workOut : Cond) ∈ Om := ot_41 _ (List.mem_of_getElem? (i := 20) rfl)
theorem om_1005 : (.selects RX1 yX1_workOut yX1_workOut : Cond) ∈ Om := ot_41 _ (List.mem_of_getElem? (i := 21) rfl)
theorem om_1006 : (.code yX1_countOf cX1_countOf 4 (some .int) : Cond) ∈ Om := ot_41 _ (List.mem_of_getElem? (i := 22) rfl)
theorem om_1007 : (.methodLink RX11 494 yX1_countOf : Cond) ∈ Om := ot_41 _ (List.mem_of_getElem? (i := 23) rfl)
theorem om_1008 : (.instanceMethod yX1_countOf : Cond) ∈ Om := ot_42 _ (List.mem_of_getElem? (i := 0) rfl)
theorem om_1009 : (.selects RX1 yX1_countOf yX1_countOf : Cond) ∈ Om := ot_42 _ (List.mem_of_getElem? (i := 1) rfl)
theorem om_1010 : (.code yX1_has cX1_has 4 (some .boolean) : Cond) ∈ Om := ot_42 _ (List.mem_of_getElem? (i := 2) rfl)
theorem om_1011 : (.methodLink RX11 498 yX1_has : Cond) ∈ Om := ot_42 _ (List.mem_of_getElem? (i := 3) rfl)
theorem om_1012 : (.instanceMethod yX1_has : Cond) ∈ Om := ot_42 _ (List.mem_of_getElem? (i := 4) rfl)
theorem om_1013 : (.selects RX1 yX1_has yX1_has : Cond) ∈ Om := ot_42 _ (List.mem_of_getElem? (i := 5) rfl)
theorem om_1014 : (.code yX0_encode cX0_encode 6 (some .int) : Cond) ∈ Om := ot_42 _ (List.mem_of_getElem? (i := 6) rfl)
theorem om_1015 : (.methodLink RX11 502 yX0_encode : Cond) ∈ Om := ot_42 _ (List.mem_of_getElem? (i := 7) rfl)
theorem om_1016 : (.instanceMethod yX0_encode : Cond) ∈ Om := ot_42 _ (List.mem_of_getElem? (i := 8) rfl)
theorem om_1017 : (.selects RX0 yX0_encode yX0_encode : Cond) ∈ Om := ot_42 _ (List.mem_of_getElem? (i := 9) rfl)
theorem om_1018 : (.methodLink RX11 509 arraycopyName : Cond) ∈ Om := ot_42 _ (List.mem_of_getElem? (i := 10) rfl)
theorem om_1019 : (.methodLink RX11 515 yX0_decode : Cond) ∈ Om := ot_42 _ (List.mem_of_getElem? (i := 11) rfl)
theorem om_1020 : (.code yX11_exchange cX11_exchange 3 (some .int) : Cond) ∈ Om := ot_42 _ (List.mem_of_getElem? (i := 12) rfl)
theorem om_1021 : (.methodLink RX11 524 yX11_exchange : Cond) ∈ Om := ot_42 _ (List.mem_of_getElem? (i := 13) rfl)
theorem om_1022 : (.instanceMethod yX11_exchange : Cond) ∈ Om := ot_42 _ (List.mem_of_getElem? (i := 14) rfl)
theorem om_1023 : (.selects RX11 yX11_exchange yX11_exchange : Cond) ∈ Om := ot_42 _ (List.mem_of_getElem? (i := 15) rfl)
theorem om_1024 : (.methodLink RX11 521 yX10_use : Cond) ∈ Om := ot_42 _ (List.mem_of_getElem? (i := 16) rfl)
theorem om_1025 : (.code yX0_append cX0_append 2 (some .boolean) : Cond) ∈ Om := ot_42 _ (List.mem_of_getElem? (i := 17) rfl)
theorem om_1026 : (.methodLink RX11 527 yX0_append : Cond) ∈ Om := ot_42 _ (List.mem_of_getElem? (i := 18) rfl)
theorem om_1027 : (.instanceMethod yX0_append : Cond) ∈ Om := ot_42 _ (List.mem_of_getElem? (i := 19) rfl)
theorem om_1028 : (.selects RX0 yX0_append yX0_append : Cond) ∈ Om := ot_42 _ (List.mem_of_getElem? (i := 20) rfl)
theorem om_1029 : (.code yX0_reopenAt cX0_reopenAt 6 (some .int) : Cond) ∈ Om := ot_42 _ (List.mem_of_getElem? (i := 21) rfl)
theorem om_1030 : (.methodLink RX11 533 yX0_reopenAt : Cond) ∈ Om := ot_42 _ (List.mem_of_getElem? (i := 22) rfl)
theorem om_1031 : (.instanceMethod yX0_reopenAt : Cond) ∈ Om := ot_42 _ (List.mem_of_getElem? (i := 23) rfl)
theorem om_1032 : (.selects RX0 yX0_reopenAt yX0_reopenAt : Cond) ∈ Om := ot_43 _ (List.mem_of_getElem? (i := 0) rfl)
theorem om_1033 : (.code yX0_readRecord cX0_readRecord 5 (some .boolean) : Cond) ∈ Om := ot_43 _ (List.mem_of_getElem? (i := 1) rfl)
theorem om_1034 : (.methodLink RX11 537 yX0_readRecord : Cond) ∈ Om := ot_43 _ (List.mem_of_getElem? (i := 2) rfl)
theorem om_1035 : (.instanceMethod yX0_readRecord : Cond) ∈ Om := ot_43 _ (List.mem_of_getElem? (i := 3) rfl)
theorem om_1036 : (.selects RX0 yX0_readRecord yX0_readRecord : Cond) ∈ Om := ot_43 _ (List.mem_of_getElem? (i := 4) rfl)
theorem om_1037 : (.code yX12_isDigit cX12_isDigit 1 (some .boolean) : Cond) ∈ Om := ot_43 _ (List.mem_of_getElem? (i := 5) rfl)
theorem om_1038 : (.methodLink RX12 394 yX12_isDigit : Cond) ∈ Om := ot_43 _ (List.mem_of_getElem? (i := 6) rfl)
theorem om_1039 : (.static yX12_isDigit : Cond) ∈ Om := ot_43 _ (List.mem_of_getElem? (i := 7) rfl)
theorem om_1040 : (.initialized RX12 : Cond) ∈ Om := ot_43 _ (List.mem_of_getElem? (i := 8) rfl)
theorem om_1041 : (.constantLong RX12 398 (255) : Cond) ∈ Om := ot_43 _ (List.mem_of_getElem? (i := 9) rfl)
theorem om_1042 : (.constantLong RX12 400 (63) : Cond) ∈ Om := ot_43 _ (List.mem_of_getElem? (i := 10) rfl)
theorem om_1043 : (.code yX12_code cX12_code 1 (some .int) : Cond) ∈ Om := ot_43 _ (List.mem_of_getElem? (i := 11) rfl)
theorem om_1044 : (.methodLink RX12 402 yX12_code : Cond) ∈ Om := ot_43 _ (List.mem_of_getElem? (i := 12) rfl)
theorem om_1045 : (.static yX12_code : Cond) ∈ Om := ot_43 _ (List.mem_of_getElem? (i := 13) rfl)
theorem om_1046 : (.code yX12_keyOf cX12_keyOf 5 (some .int) : Cond) ∈ Om := ot_43 _ (List.mem_of_getElem? (i := 14) rfl)
theorem om_1047 : (.methodLink RX12 409 yX12_keyOf : Cond) ∈ Om := ot_43 _ (List.mem_of_getElem? (i := 15) rfl)
theorem om_1048 : (.instanceMethod yX12_keyOf : Cond) ∈ Om := ot_43 _ (List.mem_of_getElem? (i := 16) rfl)
theorem om_1049 : (.selects RX12 yX12_keyOf yX12_keyOf : Cond) ∈ Om := ot_43 _ (List.mem_of_getElem? (i := 17) rfl)
theorem om_1050 : (.code yX12_isLetter cX12_isLetter 1 (some .boolean) : Cond) ∈ Om := ot_43 _ (List.mem_of_getElem? (i := 18) rfl)
theorem om_1051 : (.methodLink RX12 406 yX12_isLetter : Cond) ∈ Om := ot_43 _ (List.mem_of_getElem? (i := 19) rfl)
theorem om_1052 : (.static yX12_isLetter : Cond) ∈ Om := ot_43 _ (List.mem_of_getElem? (i := 20) rfl)
theorem om_1053 : (.code yX12_tapeName cX12_tapeName 5 (some .long) : Cond) ∈ Om := ot_43 _ (List.mem_of_getElem? (i := 21) rfl)
theorem om_1054 : (.methodLink RX12 419 yX12_tapeName : Cond) ∈ Om := ot_43 _ (List.mem_of_getElem? (i := 22) rfl)
theorem om_1055 : (.instanceMethod yX12_tapeName : Cond) ∈ Om := ot_43 _ (List.mem_of_getElem? (i := 23) rfl)
theorem om_1056 : (.selects RX12 yX12_tapeName yX12_tapeName : Cond) ∈ Om := ot_44 _ (List.mem_of_getElem? (i := 0) rfl)
theorem om_1057 : (.code yX12_width cX12_width 1 (some .int) : Cond) ∈ Om := ot_44 _ (List.mem_of_getElem? (i := 1) rfl)
theorem om_1058 : (.methodLink RX12 427 yX12_width : Cond) ∈ Om := ot_44 _ (List.mem_of_getElem? (i := 2) rfl)
theorem om_1059 : (.static yX12_width : Cond) ∈ Om := ot_44 _ (List.mem_of_getElem? (i := 3) rfl)
theorem om_1060 : (.code yX12_layOut cX12_layOut 8 none : Cond) ∈ Om := ot_44 _ (List.mem_of_getElem? (i := 4) rfl)
theorem om_1061 : (.methodLink RX12 423 yX12_layOut : Cond) ∈ Om := ot_44 _ (List.mem_of_getElem? (i := 5) rfl)
theorem om_1062 : (.instanceMethod yX12_layOut : Cond) ∈ Om := ot_44 _ (List.mem_of_getElem? (i := 6) rfl)
theorem om_1063 : (.selects RX12 yX12_layOut yX12_layOut : Cond) ∈ Om := ot_44 _ (List.mem_of_getElem? (i := 7) rfl)
theorem om_1064 : (.code yX12_isClass cX12_isClass 2 (some .boolean) : Cond) ∈ Om := ot_44 _ (List.mem_of_getElem? (i := 8) rfl)
theorem om_1065 : (.methodLink RX12 416 yX12_isClass : Cond) ∈ Om := ot_44 _ (List.mem_of_getElem? (i := 9) rfl)
theorem om_1066 : (.instanceMethod yX12_isClass : Cond) ∈ Om := ot_44 _ (List.mem_of_getElem? (i := 10) rfl)
theorem om_1067 : (.selects RX12 yX12_isClass yX12_isClass : Cond) ∈ Om := ot_44 _ (List.mem_of_getElem? (i := 11) rfl)
theorem om_1068 : (.constantLong RX12 433 (-1) : Cond) ∈ Om := ot_44 _ (List.mem_of_getElem? (i := 12) rfl)
theorem om_1069 : (.code yX12_isLinkType cX12_isLinkType 2 (some .boolean) : Cond) ∈ Om := ot_44 _ (List.mem_of_getElem? (i := 13) rfl)
theorem om_1070 : (.methodLink RX12 430 yX12_isLinkType : Cond) ∈ Om := ot_44 _ (List.mem_of_getElem? (i := 14) rfl)
theorem om_1071 : (.instanceMethod yX12_isLinkType : Cond) ∈ Om := ot_44 _ (List.mem_of_getElem? (i := 15) rfl)
theorem om_1072 : (.selects RX12 yX12_isLinkType yX12_isLinkType : Cond) ∈ Om := ot_44 _ (List.mem_of_getElem? (i := 16) rfl)
theorem om_1073 : (.code yX12_sizeOf cX12_sizeOf 2 (some .int) : Cond) ∈ Om := ot_44 _ (List.mem_of_getElem? (i := 17) rfl)
theorem om_1074 : (.methodLink RX12 438 yX12_sizeOf : Cond) ∈ Om := ot_44 _ (List.mem_of_getElem? (i := 18) rfl)
theorem om_1075 : (.instanceMethod yX12_sizeOf : Cond) ∈ Om := ot_44 _ (List.mem_of_getElem? (i := 19) rfl)
theorem om_1076 : (.selects RX12 yX12_sizeOf yX12_sizeOf : Cond) ∈ Om := ot_44 _ (List.mem_of_getElem? (i := 20) rfl)
theorem om_1077 : (.code yX12_fieldOf cX12_fieldOf 6 (some .int) : Cond) ∈ Om := ot_44 _ (List.mem_of_getElem? (i := 21) rfl)
theorem om_1078 : (.methodLink RX12 441 yX12_fieldOf : Cond) ∈ Om := ot_44 _ (List.mem_of_getElem? (i := 22) rfl)
theorem om_1079 : (.instanceMethod yX12_fieldOf : Cond) ∈ Om := ot_44 _ (List.mem_of_getElem? (i := 23) rfl)
theorem om_1080 : (.selects RX12 yX12_fieldOf yX12_fieldOf : Cond) ∈ Om := ot_45 _ (List.mem_of_getElem? (i := 0) rfl)
theorem om_1081 : (.code yX12_is cX12_is 4 (some .boolean) : Cond) ∈ Om := ot_45 _ (List.mem_of_getElem? (i := 1) rfl)
theorem om_1082 : (.methodLink RX12 445 yX12_is : Cond) ∈ Om := ot_45 _ (List.mem_of_getElem? (i := 2) rfl)
theorem om_1083 : (.instanceMethod yX12_is : Cond) ∈ Om := ot_45 _ (List.mem_of_getElem? (i := 3) rfl)
theorem om_1084 : (.selects RX12 yX12_is yX12_is : Cond) ∈ Om := ot_45 _ (List.mem_of_getElem? (i := 4) rfl)
theorem om_1085 : (.code yX12_fits cX12_fits 3 (some .boolean) : Cond) ∈ Om := ot_45 _ (List.mem_of_getElem? (i := 5) rfl)
theorem om_1086 : (.methodLink RX12 449 yX12_fits : Cond) ∈ Om := ot_45 _ (List.mem_of_getElem? (i := 6) rfl)
theorem om_1087 : (.instanceMethod yX12_fits : Cond) ∈ Om := ot_45 _ (List.mem_of_getElem? (i := 7) rfl)
theorem om_1088 : (.selects RX12 yX12_fits yX12_fits : Cond) ∈ Om := ot_45 _ (List.mem_of_getElem? (i := 8) rfl)
theorem om_1089 : (.code yX12_slotCount cX12_slotCount 3 (some .int) : Cond) ∈ Om := ot_45 _ (List.mem_of_getElem? (i := 9) rfl)
theorem om_1090 : (.methodLink RX12 455 yX12_slotCount : Cond) ∈ Om := ot_45 _ (List.mem_of_getElem? (i := 10) rfl)
theorem om_1091 : (.instanceMethod yX12_slotCount : Cond) ∈ Om := ot_45 _ (List.mem_of_getElem? (i := 11) rfl)
theorem om_1092 : (.selects RX12 yX12_slotCount yX12_slotCount : Cond) ∈ Om := ot_45 _ (List.mem_of_getElem? (i := 12) rfl)
theorem om_1093 : (.code yX12_kindOf cX12_kindOf 3 (some .int) : Cond) ∈ Om := ot_45 _ (List.mem_of_getElem? (i := 13) rfl)
theorem om_1094 : (.methodLink RX12 458 yX12_kindOf : Cond) ∈ Om := ot_45 _ (List.mem_of_getElem? (i := 14) rfl)
theorem om_1095 : (.instanceMethod yX12_kindOf : Cond) ∈ Om := ot_45 _ (List.mem_of_getElem? (i := 15) rfl)
theorem om_1096 : (.selects RX12 yX12_kindOf yX12_kindOf : Cond) ∈ Om := ot_45 _ (List.mem_of_getElem? (i := 16) rfl)
theorem om_1097 : (.code yX12_add cX12_add 6 (some .int) : Cond) ∈ Om := ot_45 _ (List.mem_of_getElem? (i := 17) rfl)
theorem om_1098 : (.methodLink RX12 467 yX12_add : Cond) ∈ Om := ot_45 _ (List.mem_of_getElem? (i := 18) rfl)
theorem om_1099 : (.instanceMethod yX12_add : Cond) ∈ Om := ot_45 _ (List.mem_of_getElem? (i := 19) rfl)
theorem om_1100 : (.selects RX12 yX12_add yX12_add : Cond) ∈ Om := ot_45 _ (List.mem_of_getElem? (i := 20) rfl)
theorem om_1101 : (.code yX12_isArrayType cX12_isArrayType 2 (some .boolean) : Cond) ∈ Om := ot_45 _ (List.mem_of_getElem? (i := 21) rfl)
theorem om_1102 : (.methodLink RX12 464 yX12_isArrayType : Cond) ∈ Om := ot_45 _ (List.mem_of_getElem? (i := 22) rfl)
theorem om_1103 : (.instanceMethod yX12_isArrayType : Cond) ∈ Om := ot_45 _ (List.mem_of_getElem? (i := 23) rfl)
theorem om_1104 : (.selects RX12 yX12_isArrayType yX12_isArrayType : Cond) ∈ Om := ot_46 _ (List.mem_of_getElem? (i := 0) rfl)
theorem om_1105 : (.code yX12_isObject cX12_isObject 2 (some .boolean) : Cond) ∈ Om := ot_46 _ (List.mem_of_getElem? (i := 1) rfl)
theorem om_1106 : (.methodLink RX12 473 yX12_isObject : Cond) ∈ Om := ot_46 _ (List.mem_of_getElem? (i := 2) rfl)
theorem om_1107 : (.instanceMethod yX12_isObject : Cond) ∈ Om := ot_46 _ (List.mem_of_getElem? (i := 3) rfl)
theorem om_1108 : (.selects RX12 yX12_isObject yX12_isObject : Cond) ∈ Om := ot_46 _ (List.mem_of_getElem? (i := 4) rfl)
theorem om_1109 : (.code yX12_rootAt cX12_rootAt 4 (some .int) : Cond) ∈ Om := ot_46 _ (List.mem_of_getElem? (i := 5) rfl)
theorem om_1110 : (.methodLink RX12 476 yX12_rootAt : Cond) ∈ Om := ot_46 _ (List.mem_of_getElem? (i := 6) rfl)
theorem om_1111 : (.instanceMethod yX12_rootAt : Cond) ∈ Om := ot_46 _ (List.mem_of_getElem? (i := 7) rfl)
theorem om_1112 : (.selects RX12 yX12_rootAt yX12_rootAt : Cond) ∈ Om := ot_46 _ (List.mem_of_getElem? (i := 8) rfl)
theorem om_1113 : (.code yX12_look cX12_look 13 none : Cond) ∈ Om := ot_46 _ (List.mem_of_getElem? (i := 9) rfl)
theorem om_1114 : (.methodLink RX12 488 yX12_look : Cond) ∈ Om := ot_46 _ (List.mem_of_getElem? (i := 10) rfl)
theorem om_1115 : (.instanceMethod yX12_look : Cond) ∈ Om := ot_46 _ (List.mem_of_getElem? (i := 11) rfl)
theorem om_1116 : (.selects RX12 yX12_look yX12_look : Cond) ∈ Om := ot_46 _ (List.mem_of_getElem? (i := 12) rfl)
theorem om_1117 : (.code yX12_isOfKind cX12_isOfKind 6 (some .boolean) : Cond) ∈ Om := ot_46 _ (List.mem_of_getElem? (i := 13) rfl)
theorem om_1118 : (.methodLink RX12 495 yX12_isOfKind : Cond) ∈ Om := ot_46 _ (List.mem_of_getElem? (i := 14) rfl)
theorem om_1119 : (.instanceMethod yX12_isOfKind : Cond) ∈ Om := ot_46 _ (List.mem_of_getElem? (i := 15) rfl)
theorem om_1120 : (.selects RX12 yX12_isOfKind yX12_isOfKind : Cond) ∈ Om := ot_46 _ (List.mem_of_getElem? (i := 16) rfl)
theorem om_1121 : (.code yX12_write cX12_write 9 none : Cond) ∈ Om := ot_46 _ (List.mem_of_getElem? (i := 17) rfl)
theorem om_1122 : (.methodLink RX12 499 yX12_write : Cond) ∈ Om := ot_46 _ (List.mem_of_getElem? (i := 18) rfl)
theorem om_1123 : (.instanceMethod yX12_write : Cond) ∈ Om := ot_46 _ (List.mem_of_getElem? (i := 19) rfl)
theorem om_1124 : (.selects RX12 yX12_write yX12_write : Cond) ∈ Om := ot_46 _ (List.mem_of_getElem? (i := 20) rfl)
theorem om_1125 : (.code yX12_beginWalk cX12_beginWalk 2 none : Cond) ∈ Om := ot_46 _ (List.mem_of_getElem? (i := 21) rfl)
theorem om_1126 : (.methodLink RX12 532 yX12_beginWalk : Cond) ∈ Om := ot_46 _ (List.mem_of_getElem? (i := 22) rfl)
theorem om_1127 : (.instanceMethod yX12_beginWalk : Cond) ∈ Om := ot_46 _ (List.mem_of_getElem? (i := 23) rfl)
theorem om_1128 : (.selects RX12 yX12_beginWalk yX12_beginWalk : Cond) ∈ Om := ot_47 _ (List.mem_of_getElem? (i := 0) rfl)
theorem om_1129 : (.code yX12_isLinkSlot cX12_isLinkSlot 3 (some .boolean) : Cond) ∈ Om := ot_47 _ (List.mem_of_getElem? (i := 1) rfl)
theorem om_1130 : (.methodLink RX12 512 yX12_isLinkSlot : Cond) ∈ Om := ot_47 _ (List.mem_of_getElem? (i := 2) rfl)
theorem om_1131 : (.instanceMethod yX12_isLinkSlot : Cond) ∈ Om := ot_47 _ (List.mem_of_getElem? (i := 3) rfl)
theorem om_1132 : (.selects RX12 yX12_isLinkSlot yX12_isLinkSlot : Cond) ∈ Om := ot_47 _ (List.mem_of_getElem? (i := 4) rfl)
theorem om_1133 : (.code yX12_meet cX12_meet 3 none : Cond) ∈ Om := ot_47 _ (List.mem_of_getElem? (i := 5) rfl)
theorem om_1134 : (.methodLink RX12 528 yX12_meet : Cond) ∈ Om := ot_47 _ (List.mem_of_getElem? (i := 6) rfl)
theorem om_1135 : (.instanceMethod yX12_meet : Cond) ∈ Om := ot_47 _ (List.mem_of_getElem? (i := 7) rfl)
theorem om_1136 : (.selects RX12 yX12_meet yX12_meet : Cond) ∈ Om := ot_47 _ (List.mem_of_getElem? (i := 8) rfl)
theorem om_1137 : (.code yX12_isApart cX12_isApart 4 (some .boolean) : Cond) ∈ Om := ot_47 _ (List.mem_of_getElem? (i := 9) rfl)
theorem om_1138 : (.methodLink RX12 525 yX12_isApart : Cond) ∈ Om := ot_47 _ (List.mem_of_getElem? (i := 10) rfl)
theorem om_1139 : (.instanceMethod yX12_isApart : Cond) ∈ Om := ot_47 _ (List.mem_of_getElem? (i := 11) rfl)
theorem om_1140 : (.selects RX12 yX12_isApart yX12_isApart : Cond) ∈ Om := ot_47 _ (List.mem_of_getElem? (i := 12) rfl)
theorem om_1141 : (.code yX12_meetSlots cX12_meetSlots 6 none : Cond) ∈ Om := ot_47 _ (List.mem_of_getElem? (i := 13) rfl)
theorem om_1142 : (.methodLink RX12 535 yX12_meetSlots : Cond) ∈ Om := ot_47 _ (List.mem_of_getElem? (i := 14) rfl)
theorem om_1143 : (.instanceMethod yX12_meetSlots : Cond) ∈ Om := ot_47 _ (List.mem_of_getElem? (i := 15) rfl)
theorem om_1144 : (.selects RX12 yX12_meetSlots yX12_meetSlots : Cond) ∈ Om := ot_47 _ (List.mem_of_getElem? (i := 16) rfl)
theorem om_1145 : (.code yX12_isLinkStatic cX12_isLinkStatic 2 (some .boolean) : Cond) ∈ Om := ot_47 _ (List.mem_of_getElem? (i := 17) rfl)
theorem om_1146 : (.methodLink RX12 519 yX12_isLinkStatic : Cond) ∈ Om := ot_47 _ (List.mem_of_getElem? (i := 18) rfl)
theorem om_1147 : (.instanceMethod yX12_isLinkStatic : Cond) ∈ Om := ot_47 _ (List.mem_of_getElem? (i := 19) rfl)
theorem om_1148 : (.selects RX12 yX12_isLinkStatic yX12_isLinkStatic : Cond) ∈ Om := ot_47 _ (List.mem_of_getElem? (i := 20) rfl)
theorem om_1149 : (.code yX12_walkRoots cX12_walkRoots 2 none : Cond) ∈ Om := ot_47 _ (List.mem_of_getElem? (i := 21) rfl)
theorem om_1150 : (.methodLink RX12 539 yX12_walkRoots : Cond) ∈ Om := ot_47 _ (List.mem_of_getElem? (i := 22) rfl)
theorem om_1151 : (.instanceMethod yX12_walkRoots : Cond) ∈ Om := ot_47 _ (List.mem_of_getElem? (i := 23) rfl)
theorem om_1152 : (.selects RX12 yX12_walkRoots yX12_walkRoots : Cond) ∈ Om := ot_48 _ (List.mem_of_getElem? (i := 0) rfl)
theorem om_1153 : (.code yX12_at cX12_at 3 (some .int) : Cond) ∈ Om := ot_48 _ (List.mem_of_getElem? (i := 1) rfl)
theorem om_1154 : (.methodLink RX12 545 yX12_at : Cond) ∈ Om := ot_48 _ (List.mem_of_getElem? (i := 2) rfl)
theorem om_1155 : (.instanceMethod yX12_at : Cond) ∈ Om := ot_48 _ (List.mem_of_getElem? (i := 3) rfl)
theorem om_1156 : (.selects RX12 yX12_at yX12_at : Cond) ∈ Om := ot_48 _ (List.mem_of_getElem? (i := 4) rfl)
theorem om_1157 : (.code yX12_addRoot cX12_addRoot 4 none : Cond) ∈ Om := ot_48 _ (List.mem_of_getElem? (i := 5) rfl)
theorem om_1158 : (.methodLink RX12 548 yX12_addRoot : Cond) ∈ Om := ot_48 _ (List.mem_of_getElem? (i := 6) rfl)
theorem om_1159 : (.instanceMethod yX12_addRoot : Cond) ∈ Om := ot_48 _ (List.mem_of_getElem? (i := 7) rfl)
theorem om_1160 : (.selects RX12 yX12_addRoot yX12_addRoot : Cond) ∈ Om := ot_48 _ (List.mem_of_getElem? (i := 8) rfl)
theorem om_1161 : (.code yX12_picture0 cX12_picture0 10 none : Cond) ∈ Om := ot_48 _ (List.mem_of_getElem? (i := 9) rfl)
theorem om_1162 : (.methodLink RX12 552 yX12_picture0 : Cond) ∈ Om := ot_48 _ (List.mem_of_getElem? (i := 10) rfl)
theorem om_1163 : (.instanceMethod yX12_picture0 : Cond) ∈ Om := ot_48 _ (List.mem_of_getElem? (i := 11) rfl)
theorem om_1164 : (.selects RX12 yX12_picture0 yX12_picture0 : Cond) ∈ Om := ot_48 _ (List.mem_of_getElem? (i := 12) rfl)
theorem om_1165 : (.code yX12_slotsIn cX12_slotsIn 3 (some .int) : Cond) ∈ Om := ot_48 _ (List.mem_of_getElem? (i := 13) rfl)
theorem om_1166 : (.methodLink RX12 570 yX12_slotsIn : Cond) ∈ Om := ot_48 _ (List.mem_of_getElem? (i := 14) rfl)
theorem om_1167 : (.instanceMethod yX12_slotsIn : Cond) ∈ Om := ot_48 _ (List.mem_of_getElem? (i := 15) rfl)
theorem om_1168 : (.selects RX12 yX12_slotsIn yX12_slotsIn : Cond) ∈ Om := ot_48 _ (List.mem_of_getElem? (i := 16) rfl)
theorem om_1169 : (.code yX12_linksIn cX12_linksIn 4 (some .boolean) : Cond) ∈ Om := ot_48 _ (List.mem_of_getElem? (i := 17) rfl)
theorem om_1170 : (.methodLink RX12 573 yX12_linksIn : Cond) ∈ Om := ot_48 _ (List.mem_of_getElem? (i := 18) rfl)
theorem om_1171 : (.instanceMethod yX12_linksIn : Cond) ∈ Om := ot_48 _ (List.mem_of_getElem? (i := 19) rfl)
theorem om_1172 : (.selects RX12 yX12_linksIn yX12_linksIn : Cond) ∈ Om := ot_48 _ (List.mem_of_getElem? (i := 20) rfl)
theorem om_1173 : (.code yX12_valueIn cX12_valueIn 4 (some .long) : Cond) ∈ Om := ot_48 _ (List.mem_of_getElem? (i := 21) rfl)
theorem om_1174 : (.methodLink RX12 577 yX12_valueIn : Cond) ∈ Om := ot_48 _ (List.mem_of_getElem? (i := 22) rfl)
theorem om_1175 : (.instanceMethod yX12_valueIn : Cond) ∈ Om := ot_48 _ (List.mem_of_getElem? (i := 23) rfl)
theorem om_1176 : (.selects RX12 yX12_valueIn yX12_valueIn : Cond) ∈ Om := ot_49 _ (List.mem_of_getElem? (i := 0) rfl)
theorem om_1177 : (.code yX12_findWays cX12_findWays 5 none : Cond) ∈ Om := ot_49 _ (List.mem_of_getElem? (i := 1) rfl)
theorem om_1178 : (.methodLink RX12 558 yX12_findWays : Cond) ∈ Om := ot_49 _ (List.mem_of_getElem? (i := 2) rfl)
theorem om_1179 : (.instanceMethod yX12_findWays : Cond) ∈ Om := ot_49 _ (List.mem_of_getElem? (i := 3) rfl)
theorem om_1180 : (.selects RX12 yX12_findWays yX12_findWays : Cond) ∈ Om := ot_49 _ (List.mem_of_getElem? (i := 4) rfl)
theorem om_1181 : (.code yX12_visit cX12_visit 5 none : Cond) ∈ Om := ot_49 _ (List.mem_of_getElem? (i := 5) rfl)
theorem om_1182 : (.methodLink RX12 584 yX12_visit : Cond) ∈ Om := ot_49 _ (List.mem_of_getElem? (i := 6) rfl)
theorem om_1183 : (.instanceMethod yX12_visit : Cond) ∈ Om := ot_49 _ (List.mem_of_getElem? (i := 7) rfl)
theorem om_1184 : (.selects RX12 yX12_visit yX12_visit : Cond) ∈ Om := ot_49 _ (List.mem_of_getElem? (i := 8) rfl)
theorem om_1185 : (.code yX12_visitSlots cX12_visitSlots 7 none : Cond) ∈ Om := ot_49 _ (List.mem_of_getElem? (i := 9) rfl)
theorem om_1186 : (.methodLink RX12 588 yX12_visitSlots : Cond) ∈ Om := ot_49 _ (List.mem_of_getElem? (i := 10) rfl)
theorem om_1187 : (.instanceMethod yX12_visitSlots : Cond) ∈ Om := ot_49 _ (List.mem_of_getElem? (i := 11) rfl)
theorem om_1188 : (.selects RX12 yX12_visitSlots yX12_visitSlots : Cond) ∈ Om := ot_49 _ (List.mem_of_getElem? (i := 12) rfl)
theorem om_1189 : (.code yX12_reach cX12_reach 6 none : Cond) ∈ Om := ot_49 _ (List.mem_of_getElem? (i := 13) rfl)
theorem om_1190 : (.methodLink RX12 591 yX12_reach : Cond) ∈ Om := ot_49 _ (List.mem_of_getElem? (i := 14) rfl)
theorem om_1191 : (.instanceMethod yX12_reach : Cond) ∈ Om := ot_49 _ (List.mem_of_getElem? (i := 15) rfl)
theorem om_1192 : (.selects RX12 yX12_reach yX12_reach : Cond) ∈ Om := ot_49 _ (List.mem_of_getElem? (i := 16) rfl)
theorem om_1193 : (.code yX12_objectSize cX12_objectSize 4 (some .int) : Cond) ∈ Om := ot_49 _ (List.mem_of_getElem? (i := 17) rfl)
theorem om_1194 : (.methodLink RX12 509 yX12_objectSize : Cond) ∈ Om := ot_49 _ (List.mem_of_getElem? (i := 18) rfl)
theorem om_1195 : (.instanceMethod yX12_objectSize : Cond) ∈ Om := ot_49 _ (List.mem_of_getElem? (i := 19) rfl)
theorem om_1196 : (.selects RX12 yX12_objectSize yX12_objectSize : Cond) ∈ Om := ot_49 _ (List.mem_of_getElem? (i := 20) rfl)
theorem om_1197 : (.code yX12_sizeIn cX12_sizeIn 3 (some .int) : Cond) ∈ Om := ot_49 _ (List.mem_of_getElem? (i := 21) rfl)
theorem om_1198 : (.methodLink RX12 594 yX12_sizeIn : Cond) ∈ Om := ot_49 _ (List.mem_of_getElem? (i := 22) rfl)
theorem om_1199 : (.instanceMethod yX12_sizeIn : Cond) ∈ Om := ot_49 _ (List.mem_of_getElem? (i := 23) rfl)
theorem om_1200 : (.selects RX12 yX12_sizeIn yX12_sizeIn : Cond) ∈ Om := ot_50 _ (List.mem_of_getElem? (i := 0) rfl)
theorem om_1201 : (.code yX12_findDominators cX12_findDominators 7 none : Cond) ∈ Om := ot_50 _ (List.mem_of_getElem? (i := 1) rfl)
theorem om_1202 : (.methodLink RX12 561 yX12_findDominators : Cond) ∈ Om := ot_50 _ (List.mem_of_getElem? (i := 2) rfl)
theorem om_1203 : (.instanceMethod yX12_findDominators : Cond) ∈ Om := ot_50 _ (List.mem_of_getElem? (i := 3) rfl)
theorem om_1204 : (.selects RX12 yX12_findDominators yX12_findDominators : Cond) ∈ Om := ot_50 _ (List.mem_of_getElem? (i := 4) rfl)
theorem om_1205 : (.code yX12_takeNow cX12_takeNow 1 none : Cond) ∈ Om := ot_50 _ (List.mem_of_getElem? (i := 5) rfl)
theorem om_1206 : (.methodLink RX12 875 yX12_takeNow : Cond) ∈ Om := ot_50 _ (List.mem_of_getElem? (i := 6) rfl)
theorem om_1207 : (.instanceMethod yX12_takeNow : Cond) ∈ Om := ot_50 _ (List.mem_of_getElem? (i := 7) rfl)
theorem om_1208 : (.selects RX12 yX12_takeNow yX12_takeNow : Cond) ∈ Om := ot_50 _ (List.mem_of_getElem? (i := 8) rfl)
theorem om_1209 : (.code yX12_beginWork cX12_beginWork 2 none : Cond) ∈ Om := ot_50 _ (List.mem_of_getElem? (i := 9) rfl)
theorem om_1210 : (.methodLink RX12 865 yX12_beginWork : Cond) ∈ Om := ot_50 _ (List.mem_of_getElem? (i := 10) rfl)
theorem om_1211 : (.instanceMethod yX12_beginWork : Cond) ∈ Om := ot_50 _ (List.mem_of_getElem? (i := 11) rfl)
theorem om_1212 : (.selects RX12 yX12_beginWork yX12_beginWork : Cond) ∈ Om := ot_50 _ (List.mem_of_getElem? (i := 12) rfl)
theorem om_1213 : (.code yX12_workBoth cX12_workBoth 3 none : Cond) ∈ Om := ot_50 _ (List.mem_of_getElem? (i := 13) rfl)
theorem om_1214 : (.methodLink RX12 804 yX12_workBoth : Cond) ∈ Om := ot_50 _ (List.mem_of_getElem? (i := 14) rfl)
theorem om_1215 : (.instanceMethod yX12_workBoth : Cond) ∈ Om := ot_50 _ (List.mem_of_getElem? (i := 15) rfl)
theorem om_1216 : (.selects RX12 yX12_workBoth yX12_workBoth : Cond) ∈ Om := ot_50 _ (List.mem_of_getElem? (i := 16) rfl)
theorem om_1217 : (.code yX12_give cX12_give 4 none : Cond) ∈ Om := ot_50 _ (List.mem_of_getElem? (i := 17) rfl)
theorem om_1218 : (.methodLink RX12 791 yX12_give : Cond) ∈ Om := ot_50 _ (List.mem_of_getElem? (i := 18) rfl)
theorem om_1219 : (.instanceMethod yX12_give : Cond) ∈ Om := ot_50 _ (List.mem_of_getElem? (i := 19) rfl)
theorem om_1220 : (.selects RX12 yX12_give yX12_give : Cond) ∈ Om := ot_50 _ (List.mem_of_getElem? (i := 20) rfl)
theorem om_1221 : (.code yX12_truth cX12_truth 2 none : Cond) ∈ Om := ot_50 _ (List.mem_of_getElem? (i := 21) rfl)
theorem om_1222 : (.methodLink RX12 813 yX12_truth : Cond) ∈ Om := ot_50 _ (List.mem_of_getElem? (i := 22) rfl)
theorem om_1223 : (.instanceMethod yX12_truth : Cond) ∈ Om := ot_50 _ (List.mem_of_getElem? (i := 23) rfl)
theorem om_1224 : (.selects RX12 yX12_truth yX12_truth : Cond) ∈ Om := ot_51 _ (List.mem_of_getElem? (i := 0) rfl)
theorem om_1225 : (.code yX12_workOne cX12_workOne 5 none : Cond) ∈ Om := ot_51 _ (List.mem_of_getElem? (i := 1) rfl)
theorem om_1226 : (.methodLink RX12 823 yX12_workOne : Cond) ∈ Om := ot_51 _ (List.mem_of_getElem? (i := 2) rfl)
theorem om_1227 : (.instanceMethod yX12_workOne : Cond) ∈ Om := ot_51 _ (List.mem_of_getElem? (i := 3) rfl)
theorem om_1228 : (.selects RX12 yX12_workOne yX12_workOne : Cond) ∈ Om := ot_51 _ (List.mem_of_getElem? (i := 4) rfl)
theorem om_1229 : (.code yX12_nothing cX12_nothing 1 none : Cond) ∈ Om := ot_51 _ (List.mem_of_getElem? (i := 5) rfl)
theorem om_1230 : (.methodLink RX12 798 yX12_nothing : Cond) ∈ Om := ot_51 _ (List.mem_of_getElem? (i := 6) rfl)
theorem om_1231 : (.instanceMethod yX12_nothing : Cond) ∈ Om := ot_51 _ (List.mem_of_getElem? (i := 7) rfl)
theorem om_1232 : (.selects RX12 yX12_nothing yX12_nothing : Cond) ∈ Om := ot_51 _ (List.mem_of_getElem? (i := 8) rfl)
theorem om_1233 : (.code yX12_workNumbered cX12_workNumbered 2 none : Cond) ∈ Om := ot_51 _ (List.mem_of_getElem? (i := 9) rfl)
theorem om_1234 : (.methodLink RX12 820 yX12_workNumbered : Cond) ∈ Om := ot_51 _ (List.mem_of_getElem? (i := 10) rfl)
theorem om_1235 : (.instanceMethod yX12_workNumbered : Cond) ∈ Om := ot_51 _ (List.mem_of_getElem? (i := 11) rfl)
theorem om_1236 : (.selects RX12 yX12_workNumbered yX12_workNumbered : Cond) ∈ Om := ot_51 _ (List.mem_of_getElem? (i := 12) rfl)
theorem om_1237 : (.code yX12_workPart cX12_workPart 4 none : Cond) ∈ Om := ot_51 _ (List.mem_of_getElem? (i := 13) rfl)
theorem om_1238 : (.methodLink RX12 817 yX12_workPart : Cond) ∈ Om := ot_51 _ (List.mem_of_getElem? (i := 14) rfl)
theorem om_1239 : (.instanceMethod yX12_workPart : Cond) ∈ Om := ot_51 _ (List.mem_of_getElem? (i := 15) rfl)
theorem om_1240 : (.selects RX12 yX12_workPart yX12_workPart : Cond) ∈ Om := ot_51 _ (List.mem_of_getElem? (i := 16) rfl)
theorem om_1241 : (.code yX12_workTwo cX12_workTwo 10 none : Cond) ∈ Om := ot_51 _ (List.mem_of_getElem? (i := 17) rfl)
theorem om_1242 : (.methodLink RX12 807 yX12_workTwo : Cond) ∈ Om := ot_51 _ (List.mem_of_getElem? (i := 18) rfl)
theorem om_1243 : (.instanceMethod yX12_workTwo : Cond) ∈ Om := ot_51 _ (List.mem_of_getElem? (i := 19) rfl)
theorem om_1244 : (.selects RX12 yX12_workTwo yX12_workTwo : Cond) ∈ Om := ot_51 _ (List.mem_of_getElem? (i := 20) rfl)
theorem om_1245 : (.code yX12_workFold cX12_workFold 10 none : Cond) ∈ Om := ot_51 _ (List.mem_of_getElem? (i := 21) rfl)
theorem om_1246 : (.methodLink RX12 801 yX12_workFold : Cond) ∈ Om := ot_51 _ (List.mem_of_getElem? (i := 22) rfl)
theorem om_1247 : (.instanceMethod yX12_workFold : Cond) ∈ Om := ot_51 _ (List.mem_of_getElem? (i := 23) rfl)
theorem om_1248 : (.selects RX12 yX12_workFold yX12_workFold : Cond) ∈ Om := ot_52 _ (List.mem_of_getElem? (i := 0) rfl)
theorem om_1249 : (.code yX12_step cX12_step 1 none : Cond) ∈ Om := ot_52 _ (List.mem_of_getElem? (i := 1) rfl)
theorem om_1250 : (.methodLink RX12 795 yX12_step : Cond) ∈ Om := ot_52 _ (List.mem_of_getElem? (i := 2) rfl)
theorem om_1251 : (.instanceMethod yX12_step : Cond) ∈ Om := ot_52 _ (List.mem_of_getElem? (i := 3) rfl)
theorem om_1252 : (.selects RX12 yX12_step yX12_step : Cond) ∈ Om := ot_52 _ (List.mem_of_getElem? (i := 4) rfl)
theorem om_1253 : (.code yX12_work cX12_work 3 none : Cond) ∈ Om := ot_52 _ (List.mem_of_getElem? (i := 5) rfl)
theorem om_1254 : (.methodLink RX12 829 yX12_work : Cond) ∈ Om := ot_52 _ (List.mem_of_getElem? (i := 6) rfl)
theorem om_1255 : (.instanceMethod yX12_work : Cond) ∈ Om := ot_52 _ (List.mem_of_getElem? (i := 7) rfl)
theorem om_1256 : (.selects RX12 yX12_work yX12_work : Cond) ∈ Om := ot_52 _ (List.mem_of_getElem? (i := 8) rfl)
theorem om_1257 : (.code yX12_link cX12_link 3 none : Cond) ∈ Om := ot_52 _ (List.mem_of_getElem? (i := 9) rfl)
theorem om_1258 : (.methodLink RX12 840 yX12_link : Cond) ∈ Om := ot_52 _ (List.mem_of_getElem? (i := 10) rfl)
theorem om_1259 : (.instanceMethod yX12_link : Cond) ∈ Om := ot_52 _ (List.mem_of_getElem? (i := 11) rfl)
theorem om_1260 : (.selects RX12 yX12_link yX12_link : Cond) ∈ Om := ot_52 _ (List.mem_of_getElem? (i := 12) rfl)
theorem om_1261 : (.code yX12_workField cX12_workField 8 none : Cond) ∈ Om := ot_52 _ (List.mem_of_getElem? (i := 13) rfl)
theorem om_1262 : (.methodLink RX12 836 yX12_workField : Cond) ∈ Om := ot_52 _ (List.mem_of_getElem? (i := 14) rfl)
theorem om_1263 : (.instanceMethod yX12_workField : Cond) ∈ Om := ot_52 _ (List.mem_of_getElem? (i := 15) rfl)
theorem om_1264 : (.selects RX12 yX12_workField yX12_workField : Cond) ∈ Om := ot_52 _ (List.mem_of_getElem? (i := 16) rfl)
theorem om_1265 : (.code yX12_isNamed cX12_isNamed 7 (some .boolean) : Cond) ∈ Om := ot_52 _ (List.mem_of_getElem? (i := 17) rfl)
theorem om_1266 : (.methodLink RX12 832 yX12_isNamed : Cond) ∈ Om := ot_52 _ (List.mem_of_getElem? (i := 18) rfl)
theorem om_1267 : (.instanceMethod yX12_isNamed : Cond) ∈ Om := ot_52 _ (List.mem_of_getElem? (i := 19) rfl)
theorem om_1268 : (.selects RX12 yX12_isNamed yX12_isNamed : Cond) ∈ Om := ot_52 _ (List.mem_of_getElem? (i := 20) rfl)
theorem om_1269 : (.code yX12_gather cX12_gather 3 none : Cond) ∈ Om := ot_52 _ (List.mem_of_getElem? (i := 21) rfl)
theorem om_1270 : (.methodLink RX12 843 yX12_gather : Cond) ∈ Om := ot_52 _ (List.mem_of_getElem? (i := 22) rfl)
theorem om_1271 : (.instanceMethod yX12_gather : Cond) ∈ Om := ot_52 _ (List.mem_of_getElem? (i := 23) rfl)
theorem om_1272 : (.selects RX12 yX12_gather yX12_gather : Cond) ∈ Om := ot_53 _ (List.mem_of_getElem? (i := 0) rfl)
theorem om_1273 : (.code yX12_workSet cX12_workSet 7 none : Cond) ∈ Om := ot_53 _ (List.mem_of_getElem? (i := 1) rfl)
theorem om_1274 : (.methodLink RX12 849 yX12_workSet : Cond) ∈ Om := ot_53 _ (List.mem_of_getElem? (i := 2) rfl)
theorem om_1275 : (.instanceMethod yX12_workSet : Cond) ∈ Om := ot_53 _ (List.mem_of_getElem? (i := 3) rfl)
theorem om_1276 : (.selects RX12 yX12_workSet yX12_workSet : Cond) ∈ Om := ot_53 _ (List.mem_of_getElem? (i := 4) rfl)
theorem om_1277 : (.code yX12_isTrueNow cX12_isTrueNow 2 (some .boolean) : Cond) ∈ Om := ot_53 _ (List.mem_of_getElem? (i := 5) rfl)
theorem om_1278 : (.methodLink RX12 878 yX12_isTrueNow : Cond) ∈ Om := ot_53 _ (List.mem_of_getElem? (i := 6) rfl)
theorem om_1279 : (.instanceMethod yX12_isTrueNow : Cond) ∈ Om := ot_53 _ (List.mem_of_getElem? (i := 7) rfl)
theorem om_1280 : (.selects RX12 yX12_isTrueNow yX12_isTrueNow : Cond) ∈ Om := ot_53 _ (List.mem_of_getElem? (i := 8) rfl)
theorem om_1281 : (.code yX12_lookAtPromises cX12_lookAtPromises 4 none : Cond) ∈ Om := ot_53 _ (List.mem_of_getElem? (i := 9) rfl)
theorem om_1282 : (.methodLink RX12 503 yX12_lookAtPromises : Cond) ∈ Om := ot_53 _ (List.mem_of_getElem? (i := 10) rfl)
theorem om_1283 : (.instanceMethod yX12_lookAtPromises : Cond) ∈ Om := ot_53 _ (List.mem_of_getElem? (i := 11) rfl)
theorem om_1284 : (.selects RX12 yX12_lookAtPromises yX12_lookAtPromises : Cond) ∈ Om := ot_53 _ (List.mem_of_getElem? (i := 12) rfl)
theorem om_1285 : (.code yX12_linkOf cX12_linkOf 3 (some .int) : Cond) ∈ Om := ot_53 _ (List.mem_of_getElem? (i := 13) rfl)
theorem om_1286 : (.methodLink RX12 492 yX12_linkOf : Cond) ∈ Om := ot_53 _ (List.mem_of_getElem? (i := 14) rfl)
theorem om_1287 : (.instanceMethod yX12_linkOf : Cond) ∈ Om := ot_53 _ (List.mem_of_getElem? (i := 15) rfl)
theorem om_1288 : (.selects RX12 yX12_linkOf yX12_linkOf : Cond) ∈ Om := ot_53 _ (List.mem_of_getElem? (i := 16) rfl)
theorem om_1289 : (.code yX12_staticOf cX12_staticOf 5 (some .int) : Cond) ∈ Om := ot_53 _ (List.mem_of_getElem? (i := 17) rfl)
theorem om_1290 : (.methodLink RX12 506 yX12_staticOf : Cond) ∈ Om := ot_53 _ (List.mem_of_getElem? (i := 18) rfl)
theorem om_1291 : (.instanceMethod yX12_staticOf : Cond) ∈ Om := ot_53 _ (List.mem_of_getElem? (i := 19) rfl)
theorem om_1292 : (.selects RX12 yX12_staticOf yX12_staticOf : Cond) ∈ Om := ot_53 _ (List.mem_of_getElem? (i := 20) rfl)
theorem om_1293 : (.code yX12_turned cX12_turned 4 (some .long) : Cond) ∈ Om := ot_53 _ (List.mem_of_getElem? (i := 21) rfl)
theorem om_1294 : (.methodLink RX12 515 yX12_turned : Cond) ∈ Om := ot_53 _ (List.mem_of_getElem? (i := 22) rfl)
theorem om_1295 : (.static yX12_turned : Cond) ∈ Om := ot_53 _ (List.mem_of_getElem? (i := 23) rfl)
theorem om_1296 : (.code yX12_isPicture cX12_isPicture 2 (some .boolean) : Cond) ∈ Om := ot_54 _ (List.mem_of_getElem? (i := 0) rfl)
theorem om_1297 : (.methodLink RX12 542 yX12_isPicture : Cond) ∈ Om := ot_54 _ (List.mem_of_getElem? (i := 1) rfl)
theorem om_1298 : (.instanceMethod yX12_isPicture : Cond) ∈ Om := ot_54 _ (List.mem_of_getElem? (i := 2) rfl)
theorem om_1299 : (.selects RX12 yX12_isPicture yX12_isPicture : Cond) ∈ Om := ot_54 _ (List.mem_of_getElem? (i := 3) rfl)
theorem om_1300 : (.code yX12_findRings cX12_findRings 5 none : Cond) ∈ Om := ot_54 _ (List.mem_of_getElem? (i := 4) rfl)
theorem om_1301 : (.methodLink RX12 564 yX12_findRings : Cond) ∈ Om := ot_54 _ (List.mem_of_getElem? (i := 5) rfl)
theorem om_1302 : (.instanceMethod yX12_findRings : Cond) ∈ Om := ot_54 _ (List.mem_of_getElem? (i := 6) rfl)
theorem om_1303 : (.selects RX12 yX12_findRings yX12_findRings : Cond) ∈ Om := ot_54 _ (List.mem_of_getElem? (i := 7) rfl)
theorem om_1304 : (.code yX12_areDoubles cX12_areDoubles 6 (some .boolean) : Cond) ∈ Om := ot_54 _ (List.mem_of_getElem? (i := 8) rfl)
theorem om_1305 : (.methodLink RX12 597 yX12_areDoubles : Cond) ∈ Om := ot_54 _ (List.mem_of_getElem? (i := 9) rfl)
theorem om_1306 : (.instanceMethod yX12_areDoubles : Cond) ∈ Om := ot_54 _ (List.mem_of_getElem? (i := 10) rfl)
theorem om_1307 : (.selects RX12 yX12_areDoubles yX12_areDoubles : Cond) ∈ Om := ot_54 _ (List.mem_of_getElem? (i := 11) rfl)
theorem om_1308 : (.code yX12_findGroups cX12_findGroups 5 none : Cond) ∈ Om := ot_54 _ (List.mem_of_getElem? (i := 12) rfl)
theorem om_1309 : (.methodLink RX12 567 yX12_findGroups : Cond) ∈ Om := ot_54 _ (List.mem_of_getElem? (i := 13) rfl)
theorem om_1310 : (.instanceMethod yX12_findGroups : Cond) ∈ Om := ot_54 _ (List.mem_of_getElem? (i := 14) rfl)
theorem om_1311 : (.selects RX12 yX12_findGroups yX12_findGroups : Cond) ∈ Om := ot_54 _ (List.mem_of_getElem? (i := 15) rfl)
theorem om_1312 : (.code yX12_study cX12_study 3 none : Cond) ∈ Om := ot_54 _ (List.mem_of_getElem? (i := 16) rfl)
theorem om_1313 : (.methodLink RX12 555 yX12_study : Cond) ∈ Om := ot_54 _ (List.mem_of_getElem? (i := 17) rfl)
theorem om_1314 : (.instanceMethod yX12_study : Cond) ∈ Om := ot_54 _ (List.mem_of_getElem? (i := 18) rfl)
theorem om_1315 : (.selects RX12 yX12_study yX12_study : Cond) ∈ Om := ot_54 _ (List.mem_of_getElem? (i := 19) rfl)
theorem om_1316 : (.code yX12_isThing cX12_isThing 3 (some .boolean) : Cond) ∈ Om := ot_54 _ (List.mem_of_getElem? (i := 20) rfl)
theorem om_1317 : (.methodLink RX12 600 yX12_isThing : Cond) ∈ Om := ot_54 _ (List.mem_of_getElem? (i := 21) rfl)
theorem om_1318 : (.instanceMethod yX12_isThing : Cond) ∈ Om := ot_54 _ (List.mem_of_getElem? (i := 22) rfl)
theorem om_1319 : (.selects RX12 yX12_isThing yX12_isThing : Cond) ∈ Om := ot_54 _ (List.mem_of_getElem? (i := 23) rfl)
theorem om_1320 : (.code yX12_holders cX12_holders 6 (some .int) : Cond) ∈ Om := ot_55 _ (List.mem_of_getElem? (i := 0) rfl)
theorem om_1321 : (.methodLink RX12 603 yX12_holders : Cond) ∈ Om := ot_55 _ (List.mem_of_getElem? (i := 1) rfl)
theorem om_1322 : (.instanceMethod yX12_holders : Cond) ∈ Om := ot_55 _ (List.mem_of_getElem? (i := 2) rfl)
theorem om_1323 : (.selects RX12 yX12_holders yX12_holders : Cond) ∈ Om := ot_55 _ (List.mem_of_getElem? (i := 3) rfl)
theorem om_1324 : (.code yX12_firstOfGroup cX12_firstOfGroup 4 (some .int) : Cond) ∈ Om := ot_55 _ (List.mem_of_getElem? (i := 4) rfl)
theorem om_1325 : (.methodLink RX12 606 yX12_firstOfGroup : Cond) ∈ Om := ot_55 _ (List.mem_of_getElem? (i := 5) rfl)
theorem om_1326 : (.instanceMethod yX12_firstOfGroup : Cond) ∈ Om := ot_55 _ (List.mem_of_getElem? (i := 6) rfl)
theorem om_1327 : (.selects RX12 yX12_firstOfGroup yX12_firstOfGroup : Cond) ∈ Om := ot_55 _ (List.mem_of_getElem? (i := 7) rfl)
theorem om_1328 : (.code yX12_shown cX12_shown 6 (some .long) : Cond) ∈ Om := ot_55 _ (List.mem_of_getElem? (i := 8) rfl)
theorem om_1329 : (.methodLink RX12 609 yX12_shown : Cond) ∈ Om := ot_55 _ (List.mem_of_getElem? (i := 9) rfl)
theorem om_1330 : (.instanceMethod yX12_shown : Cond) ∈ Om := ot_55 _ (List.mem_of_getElem? (i := 10) rfl)
theorem om_1331 : (.selects RX12 yX12_shown yX12_shown : Cond) ∈ Om := ot_55 _ (List.mem_of_getElem? (i := 11) rfl)
theorem om_1332 : (.code yX12_thingOf cX12_thingOf 5 (some .int) : Cond) ∈ Om := ot_55 _ (List.mem_of_getElem? (i := 12) rfl)
theorem om_1333 : (.methodLink RX12 615 yX12_thingOf : Cond) ∈ Om := ot_55 _ (List.mem_of_getElem? (i := 13) rfl)
theorem om_1334 : (.instanceMethod yX12_thingOf : Cond) ∈ Om := ot_55 _ (List.mem_of_getElem? (i := 14) rfl)
theorem om_1335 : (.selects RX12 yX12_thingOf yX12_thingOf : Cond) ∈ Om := ot_55 _ (List.mem_of_getElem? (i := 15) rfl)
theorem om_1336 : (.code yX12_isChanged cX12_isChanged 7 (some .boolean) : Cond) ∈ Om := ot_55 _ (List.mem_of_getElem? (i := 16) rfl)
theorem om_1337 : (.methodLink RX12 618 yX12_isChanged : Cond) ∈ Om := ot_55 _ (List.mem_of_getElem? (i := 17) rfl)
theorem om_1338 : (.instanceMethod yX12_isChanged : Cond) ∈ Om := ot_55 _ (List.mem_of_getElem? (i := 18) rfl)
theorem om_1339 : (.selects RX12 yX12_isChanged yX12_isChanged : Cond) ∈ Om := ot_55 _ (List.mem_of_getElem? (i := 19) rfl)
theorem om_1340 : (.code yX12_pair cX12_pair 3 (some .boolean) : Cond) ∈ Om := ot_55 _ (List.mem_of_getElem? (i := 20) rfl)
theorem om_1341 : (.methodLink RX12 622 yX12_pair : Cond) ∈ Om := ot_55 _ (List.mem_of_getElem? (i := 21) rfl)
theorem om_1342 : (.instanceMethod yX12_pair : Cond) ∈ Om := ot_55 _ (List.mem_of_getElem? (i := 22) rfl)
theorem om_1343 : (.selects RX12 yX12_pair yX12_pair : Cond) ∈ Om := ot_55 _ (List.mem_of_getElem? (i := 23) rfl)
theorem om_1344 : (.code yX12_byteAt cX12_byteAt 2 (some .int) : Cond) ∈ Om := ot_56 _ (List.mem_of_getElem? (i := 0) rfl)
theorem om_1345 : (.methodLink RX12 634 yX12_byteAt : Cond) ∈ Om := ot_56 _ (List.mem_of_getElem? (i := 1) rfl)
theorem om_1346 : (.instanceMethod yX12_byteAt : Cond) ∈ Om := ot_56 _ (List.mem_of_getElem? (i := 2) rfl)
theorem om_1347 : (.selects RX12 yX12_byteAt yX12_byteAt : Cond) ∈ Om := ot_56 _ (List.mem_of_getElem? (i := 3) rfl)
theorem om_1348 : (.constantLong RX12 651 (256) : Cond) ∈ Om := ot_56 _ (List.mem_of_getElem? (i := 4) rfl)
theorem om_1349 : (.constantLong RX12 647 (10) : Cond) ∈ Om := ot_56 _ (List.mem_of_getElem? (i := 5) rfl)
theorem om_1350 : (.constantLong RX12 649 (48) : Cond) ∈ Om := ot_56 _ (List.mem_of_getElem? (i := 6) rfl)
theorem om_1351 : (.code yX12_fail cX12_fail 3 none : Cond) ∈ Om := ot_56 _ (List.mem_of_getElem? (i := 7) rfl)
theorem om_1352 : (.methodLink RX12 653 yX12_fail : Cond) ∈ Om := ot_56 _ (List.mem_of_getElem? (i := 8) rfl)
theorem om_1353 : (.instanceMethod yX12_fail : Cond) ∈ Om := ot_56 _ (List.mem_of_getElem? (i := 9) rfl)
theorem om_1354 : (.selects RX12 yX12_fail yX12_fail : Cond) ∈ Om := ot_56 _ (List.mem_of_getElem? (i := 10) rfl)
theorem om_1355 : (.code yX12_advance cX12_advance 5 none : Cond) ∈ Om := ot_56 _ (List.mem_of_getElem? (i := 11) rfl)
theorem om_1356 : (.methodLink RX12 661 yX12_advance : Cond) ∈ Om := ot_56 _ (List.mem_of_getElem? (i := 12) rfl)
theorem om_1357 : (.instanceMethod yX12_advance : Cond) ∈ Om := ot_56 _ (List.mem_of_getElem? (i := 13) rfl)
theorem om_1358 : (.selects RX12 yX12_advance yX12_advance : Cond) ∈ Om := ot_56 _ (List.mem_of_getElem? (i := 14) rfl)
theorem om_1359 : (.code yX12_isSign cX12_isSign 3 (some .boolean) : Cond) ∈ Om := ot_56 _ (List.mem_of_getElem? (i := 15) rfl)
theorem om_1360 : (.methodLink RX12 657 yX12_isSign : Cond) ∈ Om := ot_56 _ (List.mem_of_getElem? (i := 16) rfl)
theorem om_1361 : (.instanceMethod yX12_isSign : Cond) ∈ Om := ot_56 _ (List.mem_of_getElem? (i := 17) rfl)
theorem om_1362 : (.selects RX12 yX12_isSign yX12_isSign : Cond) ∈ Om := ot_56 _ (List.mem_of_getElem? (i := 18) rfl)
theorem om_1363 : (.code yX12_wrong cX12_wrong 1 none : Cond) ∈ Om := ot_56 _ (List.mem_of_getElem? (i := 19) rfl)
theorem om_1364 : (.methodLink RX12 664 yX12_wrong : Cond) ∈ Om := ot_56 _ (List.mem_of_getElem? (i := 20) rfl)
theorem om_1365 : (.instanceMethod yX12_wrong : Cond) ∈ Om := ot_56 _ (List.mem_of_getElem? (i := 21) rfl)
theorem om_1366 : (.selects RX12 yX12_wrong yX12_wrong : Cond) ∈ Om := ot_56 _ (List.mem_of_getElem? (i := 22) rfl)
theorem om_1367 : (.code yX12_isKey cX12_isKey 2 (some .boolean) : Cond) ∈ Om := ot_56 _ (List.mem_of_getElem? (i := 23) rfl)
theorem om_1368 : (.methodLink RX12 667 yX12_isKey : Cond) ∈ Om := ot_57 _ (List.mem_of_getElem? (i := 0) rfl)
theorem om_1369 : (.instanceMethod yX12_isKey : Cond) ∈ Om := ot_57 _ (List.mem_of_getElem? (i := 1) rfl)
theorem om_1370 : (.selects RX12 yX12_isKey yX12_isKey : Cond) ∈ Om := ot_57 _ (List.mem_of_getElem? (i := 2) rfl)
theorem om_1371 : (.code yX12_readAnd cX12_readAnd 3 (some .int) : Cond) ∈ Om := ot_57 _ (List.mem_of_getElem? (i := 3) rfl)
theorem om_1372 : (.methodLink RX12 679 yX12_readAnd : Cond) ∈ Om := ot_57 _ (List.mem_of_getElem? (i := 4) rfl)
theorem om_1373 : (.instanceMethod yX12_readAnd : Cond) ∈ Om := ot_57 _ (List.mem_of_getElem? (i := 5) rfl)
theorem om_1374 : (.selects RX12 yX12_readAnd yX12_readAnd : Cond) ∈ Om := ot_57 _ (List.mem_of_getElem? (i := 6) rfl)
theorem om_1375 : (.code yX12_node cX12_node 3 (some .int) : Cond) ∈ Om := ot_57 _ (List.mem_of_getElem? (i := 7) rfl)
theorem om_1376 : (.methodLink RX12 683 yX12_node : Cond) ∈ Om := ot_57 _ (List.mem_of_getElem? (i := 8) rfl)
theorem om_1377 : (.instanceMethod yX12_node : Cond) ∈ Om := ot_57 _ (List.mem_of_getElem? (i := 9) rfl)
theorem om_1378 : (.selects RX12 yX12_node yX12_node : Cond) ∈ Om := ot_57 _ (List.mem_of_getElem? (i := 10) rfl)
theorem om_1379 : (.code yX12_readNot cX12_readNot 2 (some .int) : Cond) ∈ Om := ot_57 _ (List.mem_of_getElem? (i := 11) rfl)
theorem om_1380 : (.methodLink RX12 686 yX12_readNot : Cond) ∈ Om := ot_57 _ (List.mem_of_getElem? (i := 12) rfl)
theorem om_1381 : (.instanceMethod yX12_readNot : Cond) ∈ Om := ot_57 _ (List.mem_of_getElem? (i := 13) rfl)
theorem om_1382 : (.selects RX12 yX12_readNot yX12_readNot : Cond) ∈ Om := ot_57 _ (List.mem_of_getElem? (i := 14) rfl)
theorem om_1383 : (.code yX12_readCompared cX12_readCompared 4 (some .int) : Cond) ∈ Om := ot_57 _ (List.mem_of_getElem? (i := 15) rfl)
theorem om_1384 : (.methodLink RX12 689 yX12_readCompared : Cond) ∈ Om := ot_57 _ (List.mem_of_getElem? (i := 16) rfl)
theorem om_1385 : (.instanceMethod yX12_readCompared : Cond) ∈ Om := ot_57 _ (List.mem_of_getElem? (i := 17) rfl)
theorem om_1386 : (.selects RX12 yX12_readCompared yX12_readCompared : Cond) ∈ Om := ot_57 _ (List.mem_of_getElem? (i := 18) rfl)
theorem om_1387 : (.code yX12_readSum cX12_readSum 3 (some .int) : Cond) ∈ Om := ot_57 _ (List.mem_of_getElem? (i := 19) rfl)
theorem om_1388 : (.methodLink RX12 704 yX12_readSum : Cond) ∈ Om := ot_57 _ (List.mem_of_getElem? (i := 20) rfl)
theorem om_1389 : (.instanceMethod yX12_readSum : Cond) ∈ Om := ot_57 _ (List.mem_of_getElem? (i := 21) rfl)
theorem om_1390 : (.selects RX12 yX12_readSum yX12_readSum : Cond) ∈ Om := ot_57 _ (List.mem_of_getElem? (i := 22) rfl)
theorem om_1391 : (.constantLong RX12 692 (61) : Cond) ∈ Om := ot_57 _ (List.mem_of_getElem? (i := 23) rfl)
theorem om_1392 : (.constantLong RX12 694 (8509) : Cond) ∈ Om := ot_58 _ (List.mem_of_getElem? (i := 0) rfl)
theorem om_1393 : (.constantLong RX12 696 (60) : Cond) ∈ Om := ot_58 _ (List.mem_of_getElem? (i := 1) rfl)
theorem om_1394 : (.constantLong RX12 698 (15421) : Cond) ∈ Om := ot_58 _ (List.mem_of_getElem? (i := 2) rfl)
theorem om_1395 : (.constantLong RX12 700 (62) : Cond) ∈ Om := ot_58 _ (List.mem_of_getElem? (i := 3) rfl)
theorem om_1396 : (.constantLong RX12 702 (15933) : Cond) ∈ Om := ot_58 _ (List.mem_of_getElem? (i := 4) rfl)
theorem om_1397 : (.code yX12_compared cX12_compared 1 (some .int) : Cond) ∈ Om := ot_58 _ (List.mem_of_getElem? (i := 5) rfl)
theorem om_1398 : (.methodLink RX12 707 yX12_compared : Cond) ∈ Om := ot_58 _ (List.mem_of_getElem? (i := 6) rfl)
theorem om_1399 : (.instanceMethod yX12_compared : Cond) ∈ Om := ot_58 _ (List.mem_of_getElem? (i := 7) rfl)
theorem om_1400 : (.selects RX12 yX12_compared yX12_compared : Cond) ∈ Om := ot_58 _ (List.mem_of_getElem? (i := 8) rfl)
theorem om_1401 : (.code yX12_isName cX12_isName 1 (some .boolean) : Cond) ∈ Om := ot_58 _ (List.mem_of_getElem? (i := 9) rfl)
theorem om_1402 : (.methodLink RX12 710 yX12_isName : Cond) ∈ Om := ot_58 _ (List.mem_of_getElem? (i := 10) rfl)
theorem om_1403 : (.instanceMethod yX12_isName : Cond) ∈ Om := ot_58 _ (List.mem_of_getElem? (i := 11) rfl)
theorem om_1404 : (.selects RX12 yX12_isName yX12_isName : Cond) ∈ Om := ot_58 _ (List.mem_of_getElem? (i := 12) rfl)
theorem om_1405 : (.code yX12_readProduct cX12_readProduct 3 (some .int) : Cond) ∈ Om := ot_58 _ (List.mem_of_getElem? (i := 13) rfl)
theorem om_1406 : (.methodLink RX12 714 yX12_readProduct : Cond) ∈ Om := ot_58 _ (List.mem_of_getElem? (i := 14) rfl)
theorem om_1407 : (.instanceMethod yX12_readProduct : Cond) ∈ Om := ot_58 _ (List.mem_of_getElem? (i := 15) rfl)
theorem om_1408 : (.selects RX12 yX12_readProduct yX12_readProduct : Cond) ∈ Om := ot_58 _ (List.mem_of_getElem? (i := 16) rfl)
theorem om_1409 : (.constantLong RX12 717 (43) : Cond) ∈ Om := ot_58 _ (List.mem_of_getElem? (i := 17) rfl)
theorem om_1410 : (.constantLong RX12 719 (45) : Cond) ∈ Om := ot_58 _ (List.mem_of_getElem? (i := 18) rfl)
theorem om_1411 : (.code yX12_readTurned cX12_readTurned 2 (some .int) : Cond) ∈ Om := ot_58 _ (List.mem_of_getElem? (i := 19) rfl)
theorem om_1412 : (.methodLink RX12 721 yX12_readTurned : Cond) ∈ Om := ot_58 _ (List.mem_of_getElem? (i := 20) rfl)
theorem om_1413 : (.instanceMethod yX12_readTurned : Cond) ∈ Om := ot_58 _ (List.mem_of_getElem? (i := 21) rfl)
theorem om_1414 : (.selects RX12 yX12_readTurned yX12_readTurned : Cond) ∈ Om := ot_58 _ (List.mem_of_getElem? (i := 22) rfl)
theorem om_1415 : (.constantLong RX12 724 (42) : Cond) ∈ Om := ot_58 _ (List.mem_of_getElem? (i := 23) rfl)
theorem om_1416 : (.constantLong RX12 726 (47) : Cond) ∈ Om := ot_59 _ (List.mem_of_getElem? (i := 0) rfl)
theorem om_1417 : (.constantLong RX12 728 (37) : Cond) ∈ Om := ot_59 _ (List.mem_of_getElem? (i := 1) rfl)
theorem om_1418 : (.code yX12_readP cX12_readP 4 (some .int) : Cond) ∈ Om := ot_59 _ (List.mem_of_getElem? (i := 2) rfl)
theorem om_1419 : (.methodLink RX12 730 yX12_readP : Cond) ∈ Om := ot_59 _ (List.mem_of_getElem? (i := 3) rfl)
theorem om_1420 : (.instanceMethod yX12_readP : Cond) ∈ Om := ot_59 _ (List.mem_of_getElem? (i := 4) rfl)
theorem om_1421 : (.selects RX12 yX12_readP yX12_readP : Cond) ∈ Om := ot_59 _ (List.mem_of_getElem? (i := 5) rfl)
theorem om_1422 : (.code yX12_readAtom cX12_readAtom 5 (some .int) : Cond) ∈ Om := ot_59 _ (List.mem_of_getElem? (i := 6) rfl)
theorem om_1423 : (.methodLink RX12 733 yX12_readAtom : Cond) ∈ Om := ot_59 _ (List.mem_of_getElem? (i := 7) rfl)
theorem om_1424 : (.instanceMethod yX12_readAtom : Cond) ∈ Om := ot_59 _ (List.mem_of_getElem? (i := 8) rfl)
theorem om_1425 : (.selects RX12 yX12_readAtom yX12_readAtom : Cond) ∈ Om := ot_59 _ (List.mem_of_getElem? (i := 9) rfl)
theorem om_1426 : (.constantLong RX12 736 (46) : Cond) ∈ Om := ot_59 _ (List.mem_of_getElem? (i := 10) rfl)
theorem om_1427 : (.constantLong RX12 746 (93) : Cond) ∈ Om := ot_59 _ (List.mem_of_getElem? (i := 11) rfl)
theorem om_1428 : (.code yX12_needSign cX12_needSign 3 none : Cond) ∈ Om := ot_59 _ (List.mem_of_getElem? (i := 12) rfl)
theorem om_1429 : (.methodLink RX12 748 yX12_needSign : Cond) ∈ Om := ot_59 _ (List.mem_of_getElem? (i := 13) rfl)
theorem om_1430 : (.instanceMethod yX12_needSign : Cond) ∈ Om := ot_59 _ (List.mem_of_getElem? (i := 14) rfl)
theorem om_1431 : (.selects RX12 yX12_needSign yX12_needSign : Cond) ∈ Om := ot_59 _ (List.mem_of_getElem? (i := 15) rfl)
theorem om_1432 : (.code yX12_readE cX12_readE 3 (some .int) : Cond) ∈ Om := ot_59 _ (List.mem_of_getElem? (i := 16) rfl)
theorem om_1433 : (.methodLink RX12 743 yX12_readE : Cond) ∈ Om := ot_59 _ (List.mem_of_getElem? (i := 17) rfl)
theorem om_1434 : (.instanceMethod yX12_readE : Cond) ∈ Om := ot_59 _ (List.mem_of_getElem? (i := 18) rfl)
theorem om_1435 : (.selects RX12 yX12_readE yX12_readE : Cond) ∈ Om := ot_59 _ (List.mem_of_getElem? (i := 19) rfl)
theorem om_1436 : (.code yX12_nest cX12_nest 1 none : Cond) ∈ Om := ot_59 _ (List.mem_of_getElem? (i := 20) rfl)
theorem om_1437 : (.methodLink RX12 740 yX12_nest : Cond) ∈ Om := ot_59 _ (List.mem_of_getElem? (i := 21) rfl)
theorem om_1438 : (.instanceMethod yX12_nest : Cond) ∈ Om := ot_59 _ (List.mem_of_getElem? (i := 22) rfl)
theorem om_1439 : (.selects RX12 yX12_nest yX12_nest : Cond) ∈ Om := ot_59 _ (List.mem_of_getElem? (i := 23) rfl)
theorem om_1440 : (.constantLong RX12 738 (91) : Cond) ∈ Om := ot_60 _ (List.mem_of_getElem? (i := 0) rfl)
theorem om_1441 : (.code yX12_keyAtHand cX12_keyAtHand 1 (some .int) : Cond) ∈ Om := ot_60 _ (List.mem_of_getElem? (i := 1) rfl)
theorem om_1442 : (.methodLink RX12 751 yX12_keyAtHand : Cond) ∈ Om := ot_60 _ (List.mem_of_getElem? (i := 2) rfl)
theorem om_1443 : (.instanceMethod yX12_keyAtHand : Cond) ∈ Om := ot_60 _ (List.mem_of_getElem? (i := 3) rfl)
theorem om_1444 : (.selects RX12 yX12_keyAtHand yX12_keyAtHand : Cond) ∈ Om := ot_60 _ (List.mem_of_getElem? (i := 4) rfl)
theorem om_1445 : (.constantLong RX12 754 (40) : Cond) ∈ Om := ot_60 _ (List.mem_of_getElem? (i := 5) rfl)
theorem om_1446 : (.code yX12_readFold cX12_readFold 5 (some .int) : Cond) ∈ Om := ot_60 _ (List.mem_of_getElem? (i := 6) rfl)
theorem om_1447 : (.methodLink RX12 758 yX12_readFold : Cond) ∈ Om := ot_60 _ (List.mem_of_getElem? (i := 7) rfl)
theorem om_1448 : (.instanceMethod yX12_readFold : Cond) ∈ Om := ot_60 _ (List.mem_of_getElem? (i := 8) rfl)
theorem om_1449 : (.selects RX12 yX12_readFold yX12_readFold : Cond) ∈ Om := ot_60 _ (List.mem_of_getElem? (i := 9) rfl)
theorem om_1450 : (.constantLong RX12 756 (41) : Cond) ∈ Om := ot_60 _ (List.mem_of_getElem? (i := 10) rfl)
theorem om_1451 : (.code yX12_readSet cX12_readSet 4 (some .int) : Cond) ∈ Om := ot_60 _ (List.mem_of_getElem? (i := 11) rfl)
theorem om_1452 : (.methodLink RX12 771 yX12_readSet : Cond) ∈ Om := ot_60 _ (List.mem_of_getElem? (i := 12) rfl)
theorem om_1453 : (.instanceMethod yX12_readSet : Cond) ∈ Om := ot_60 _ (List.mem_of_getElem? (i := 13) rfl)
theorem om_1454 : (.selects RX12 yX12_readSet yX12_readSet : Cond) ∈ Om := ot_60 _ (List.mem_of_getElem? (i := 14) rfl)
theorem om_1455 : (.code yX12_takesKey cX12_takesKey 3 (some .boolean) : Cond) ∈ Om := ot_60 _ (List.mem_of_getElem? (i := 15) rfl)
theorem om_1456 : (.methodLink RX12 768 yX12_takesKey : Cond) ∈ Om := ot_60 _ (List.mem_of_getElem? (i := 16) rfl)
theorem om_1457 : (.instanceMethod yX12_takesKey : Cond) ∈ Om := ot_60 _ (List.mem_of_getElem? (i := 17) rfl)
theorem om_1458 : (.selects RX12 yX12_takesKey yX12_takesKey : Cond) ∈ Om := ot_60 _ (List.mem_of_getElem? (i := 18) rfl)
theorem om_1459 : (.constantLong RX12 774 (58) : Cond) ∈ Om := ot_60 _ (List.mem_of_getElem? (i := 19) rfl)
theorem om_1460 : (.code yX12_beginText cX12_beginText 2 none : Cond) ∈ Om := ot_60 _ (List.mem_of_getElem? (i := 20) rfl)
theorem om_1461 : (.methodLink RX12 855 yX12_beginText : Cond) ∈ Om := ot_60 _ (List.mem_of_getElem? (i := 21) rfl)
theorem om_1462 : (.instanceMethod yX12_beginText : Cond) ∈ Om := ot_60 _ (List.mem_of_getElem? (i := 22) rfl)
theorem om_1463 : (.selects RX12 yX12_beginText yX12_beginText : Cond) ∈ Om := ot_60 _ (List.mem_of_getElem? (i := 23) rfl)
theorem om_1464 : (.code yX12_endText cX12_endText 1 none : Cond) ∈ Om := ot_61 _ (List.mem_of_getElem? (i := 0) rfl)
theorem om_1465 : (.methodLink RX12 858 yX12_endText : Cond) ∈ Om := ot_61 _ (List.mem_of_getElem? (i := 1) rfl)
theorem om_1466 : (.instanceMethod yX12_endText : Cond) ∈ Om := ot_61 _ (List.mem_of_getElem? (i := 2) rfl)
theorem om_1467 : (.selects RX12 yX12_endText yX12_endText : Cond) ∈ Om := ot_61 _ (List.mem_of_getElem? (i := 3) rfl)
theorem om_1468 : (.constant RX12 868 (48400) : Cond) ∈ Om := ot_61 _ (List.mem_of_getElem? (i := 4) rfl)
theorem om_1469 : (.code yX12_answerAll cX12_answerAll 6 none : Cond) ∈ Om := ot_61 _ (List.mem_of_getElem? (i := 5) rfl)
theorem om_1470 : (.methodLink RX12 861 yX12_answerAll : Cond) ∈ Om := ot_61 _ (List.mem_of_getElem? (i := 6) rfl)
theorem om_1471 : (.instanceMethod yX12_answerAll : Cond) ∈ Om := ot_61 _ (List.mem_of_getElem? (i := 7) rfl)
theorem om_1472 : (.selects RX12 yX12_answerAll yX12_answerAll : Cond) ∈ Om := ot_61 _ (List.mem_of_getElem? (i := 8) rfl)
theorem om_1473 : (.constantLong RX12 881 (26982) : Cond) ∈ Om := ot_61 _ (List.mem_of_getElem? (i := 9) rfl)
theorem om_1474 : (.code yX12_coded cX12_coded 6 (some .long) : Cond) ∈ Om := ot_61 _ (List.mem_of_getElem? (i := 10) rfl)
theorem om_1475 : (.methodLink RX12 384 yX12_coded : Cond) ∈ Om := ot_61 _ (List.mem_of_getElem? (i := 11) rfl)
theorem om_1476 : (.static yX12_coded : Cond) ∈ Om := ot_61 _ (List.mem_of_getElem? (i := 12) rfl)
theorem om_1477 : (.constantLong RX12 883 (1818848875) : Cond) ∈ Om := ot_61 _ (List.mem_of_getElem? (i := 13) rfl)
theorem om_1478 : (.code yX12_isRuleName cX12_isRuleName 1 (some .boolean) : Cond) ∈ Om := ot_61 _ (List.mem_of_getElem? (i := 14) rfl)
theorem om_1479 : (.methodLink RX12 885 yX12_isRuleName : Cond) ∈ Om := ot_61 _ (List.mem_of_getElem? (i := 15) rfl)
theorem om_1480 : (.instanceMethod yX12_isRuleName : Cond) ∈ Om := ot_61 _ (List.mem_of_getElem? (i := 16) rfl)
theorem om_1481 : (.selects RX12 yX12_isRuleName yX12_isRuleName : Cond) ∈ Om := ot_61 _ (List.mem_of_getElem? (i := 17) rfl)
theorem om_1482 : (.code yX12_readVariable cX12_readVariable 3 (some .int) : Cond) ∈ Om := ot_61 _ (List.mem_of_getElem? (i := 18) rfl)
theorem om_1483 : (.methodLink RX12 891 yX12_readVariable : Cond) ∈ Om := ot_61 _ (List.mem_of_getElem? (i := 19) rfl)
theorem om_1484 : (.instanceMethod yX12_readVariable : Cond) ∈ Om := ot_61 _ (List.mem_of_getElem? (i := 20) rfl)
theorem om_1485 : (.selects RX12 yX12_readVariable yX12_readVariable : Cond) ∈ Om := ot_61 _ (List.mem_of_getElem? (i := 21) rfl)
theorem om_1486 : (.constantLong RX12 900 (44) : Cond) ∈ Om := ot_61 _ (List.mem_of_getElem? (i := 22) rfl)
theorem om_1487 : (.code yX12_takesSign cX12_takesSign 4 (some .boolean) : Cond) ∈ Om := ot_61 _ (List.mem_of_getElem? (i := 23) rfl)
theorem om_1488 : (.methodLink RX12 902 yX12_takesSign : Cond) ∈ Om := ot_62 _ (List.mem_of_getElem? (i := 0) rfl)
theorem om_1489 : (.instanceMethod yX12_takesSign : Cond) ∈ Om := ot_62 _ (List.mem_of_getElem? (i := 1) rfl)
theorem om_1490 : (.selects RX12 yX12_takesSign yX12_takesSign : Cond) ∈ Om := ot_62 _ (List.mem_of_getElem? (i := 2) rfl)
theorem om_1491 : (.code yX12_relationAtHand cX12_relationAtHand 3 (some .int) : Cond) ∈ Om := ot_62 _ (List.mem_of_getElem? (i := 3) rfl)
theorem om_1492 : (.methodLink RX12 911 yX12_relationAtHand : Cond) ∈ Om := ot_62 _ (List.mem_of_getElem? (i := 4) rfl)
theorem om_1493 : (.instanceMethod yX12_relationAtHand : Cond) ∈ Om := ot_62 _ (List.mem_of_getElem? (i := 5) rfl)
theorem om_1494 : (.selects RX12 yX12_relationAtHand yX12_relationAtHand : Cond) ∈ Om := ot_62 _ (List.mem_of_getElem? (i := 6) rfl)
theorem om_1495 : (.code yX12_readPlaces cX12_readPlaces 5 none : Cond) ∈ Om := ot_62 _ (List.mem_of_getElem? (i := 7) rfl)
theorem om_1496 : (.methodLink RX12 914 yX12_readPlaces : Cond) ∈ Om := ot_62 _ (List.mem_of_getElem? (i := 8) rfl)
theorem om_1497 : (.instanceMethod yX12_readPlaces : Cond) ∈ Om := ot_62 _ (List.mem_of_getElem? (i := 9) rfl)
theorem om_1498 : (.selects RX12 yX12_readPlaces yX12_readPlaces : Cond) ∈ Om := ot_62 _ (List.mem_of_getElem? (i := 10) rfl)
theorem om_1499 : (.constantLong RX12 921 (59) : Cond) ∈ Om := ot_62 _ (List.mem_of_getElem? (i := 11) rfl)
theorem om_1500 : (.code yX12_isHeld cX12_isHeld 5 (some .boolean) : Cond) ∈ Om := ot_62 _ (List.mem_of_getElem? (i := 12) rfl)
theorem om_1501 : (.methodLink RX12 923 yX12_isHeld : Cond) ∈ Om := ot_62 _ (List.mem_of_getElem? (i := 13) rfl)
theorem om_1502 : (.instanceMethod yX12_isHeld : Cond) ∈ Om := ot_62 _ (List.mem_of_getElem? (i := 14) rfl)
theorem om_1503 : (.selects RX12 yX12_isHeld yX12_isHeld : Cond) ∈ Om := ot_62 _ (List.mem_of_getElem? (i := 15) rfl)
theorem om_1504 : (.code yX12_readRelation cX12_readRelation 6 none : Cond) ∈ Om := ot_62 _ (List.mem_of_getElem? (i := 16) rfl)
theorem om_1505 : (.methodLink RX12 926 yX12_readRelation : Cond) ∈ Om := ot_62 _ (List.mem_of_getElem? (i := 17) rfl)
theorem om_1506 : (.instanceMethod yX12_readRelation : Cond) ∈ Om := ot_62 _ (List.mem_of_getElem? (i := 18) rfl)
theorem om_1507 : (.selects RX12 yX12_readRelation yX12_readRelation : Cond) ∈ Om := ot_62 _ (List.mem_of_getElem? (i := 19) rfl)
theorem om_1508 : (.code yX12_readAtomOf cX12_readAtomOf 8 none : Cond) ∈ Om := ot_62 _ (List.mem_of_getElem? (i := 20) rfl)
theorem om_1509 : (.methodLink RX12 918 yX12_readAtomOf : Cond) ∈ Om := ot_62 _ (List.mem_of_getElem? (i := 21) rfl)
theorem om_1510 : (.instanceMethod yX12_readAtomOf : Cond) ∈ Om := ot_62 _ (List.mem_of_getElem? (i := 22) rfl)
theorem om_1511 : (.selects RX12 yX12_readAtomOf yX12_readAtomOf : Cond) ∈ Om := ot_62 _ (List.mem_of_getElem? (i := 23) rfl)
theorem om_1512 : (.code yX12_isFactNow cX12_isFactNow 4 (some .boolean) : Cond) ∈ Om := ot_63 _ (List.mem_of_getElem? (i := 0) rfl)
theorem om_1513 : (.methodLink RX12 930 yX12_isFactNow : Cond) ∈ Om := ot_63 _ (List.mem_of_getElem? (i := 1) rfl)
theorem om_1514 : (.instanceMethod yX12_isFactNow : Cond) ∈ Om := ot_63 _ (List.mem_of_getElem? (i := 2) rfl)
theorem om_1515 : (.selects RX12 yX12_isFactNow yX12_isFactNow : Cond) ∈ Om := ot_63 _ (List.mem_of_getElem? (i := 3) rfl)
theorem om_1516 : (.code yX12_holds cX12_holds 4 (some .boolean) : Cond) ∈ Om := ot_63 _ (List.mem_of_getElem? (i := 4) rfl)
theorem om_1517 : (.methodLink RX12 936 yX12_holds : Cond) ∈ Om := ot_63 _ (List.mem_of_getElem? (i := 5) rfl)
theorem om_1518 : (.instanceMethod yX12_holds : Cond) ∈ Om := ot_63 _ (List.mem_of_getElem? (i := 6) rfl)
theorem om_1519 : (.selects RX12 yX12_holds yX12_holds : Cond) ∈ Om := ot_63 _ (List.mem_of_getElem? (i := 7) rfl)
theorem om_1520 : (.code yX12_join cX12_join 13 (some .boolean) : Cond) ∈ Om := ot_63 _ (List.mem_of_getElem? (i := 8) rfl)
theorem om_1521 : (.methodLink RX12 939 yX12_join : Cond) ∈ Om := ot_63 _ (List.mem_of_getElem? (i := 9) rfl)
theorem om_1522 : (.instanceMethod yX12_join : Cond) ∈ Om := ot_63 _ (List.mem_of_getElem? (i := 10) rfl)
theorem om_1523 : (.selects RX12 yX12_join yX12_join : Cond) ∈ Om := ot_63 _ (List.mem_of_getElem? (i := 11) rfl)
theorem om_1524 : (.code yX12_findLinks cX12_findLinks 5 none : Cond) ∈ Om := ot_63 _ (List.mem_of_getElem? (i := 12) rfl)
theorem om_1525 : (.methodLink RX12 945 yX12_findLinks : Cond) ∈ Om := ot_63 _ (List.mem_of_getElem? (i := 13) rfl)
theorem om_1526 : (.instanceMethod yX12_findLinks : Cond) ∈ Om := ot_63 _ (List.mem_of_getElem? (i := 14) rfl)
theorem om_1527 : (.selects RX12 yX12_findLinks yX12_findLinks : Cond) ∈ Om := ot_63 _ (List.mem_of_getElem? (i := 15) rfl)
theorem om_1528 : (.code yX12_count cX12_count 5 (some .int) : Cond) ∈ Om := ot_63 _ (List.mem_of_getElem? (i := 16) rfl)
theorem om_1529 : (.methodLink RX12 948 yX12_count : Cond) ∈ Om := ot_63 _ (List.mem_of_getElem? (i := 17) rfl)
theorem om_1530 : (.instanceMethod yX12_count : Cond) ∈ Om := ot_63 _ (List.mem_of_getElem? (i := 18) rfl)
theorem om_1531 : (.selects RX12 yX12_count yX12_count : Cond) ∈ Om := ot_63 _ (List.mem_of_getElem? (i := 19) rfl)
theorem om_1532 : (.code yX12_readRule cX12_readRule 4 none : Cond) ∈ Om := ot_63 _ (List.mem_of_getElem? (i := 20) rfl)
theorem om_1533 : (.methodLink RX12 942 yX12_readRule : Cond) ∈ Om := ot_63 _ (List.mem_of_getElem? (i := 21) rfl)
theorem om_1534 : (.instanceMethod yX12_readRule : Cond) ∈ Om := ot_63 _ (List.mem_of_getElem? (i := 22) rfl)
theorem om_1535 : (.selects RX12 yX12_readRule yX12_readRule : Cond) ∈ Om := ot_63 _ (List.mem_of_getElem? (i := 23) rfl)
theorem om_1536 : (.constantLong RX12 951 (127) : Cond) ∈ Om := ot_64 _ (List.mem_of_getElem? (i := 0) rfl)
theorem om_1537 : (.constant RX12 956 (16777619) : Cond) ∈ Om := ot_64 _ (List.mem_of_getElem? (i := 1) rfl)
theorem om_1538 : (.constantLong RX12 957 (72) : Cond) ∈ Om := ot_64 _ (List.mem_of_getElem? (i := 2) rfl)
theorem om_1539 : (.code yX12_putNumber cX12_putNumber 6 none : Cond) ∈ Om := ot_64 _ (List.mem_of_getElem? (i := 3) rfl)
theorem om_1540 : (.methodLink RX12 959 yX12_putNumber : Cond) ∈ Om := ot_64 _ (List.mem_of_getElem? (i := 4) rfl)
theorem om_1541 : (.instanceMethod yX12_putNumber : Cond) ∈ Om := ot_64 _ (List.mem_of_getElem? (i := 5) rfl)
theorem om_1542 : (.selects RX12 yX12_putNumber yX12_putNumber : Cond) ∈ Om := ot_64 _ (List.mem_of_getElem? (i := 6) rfl)
theorem om_1543 : (.constantLong RX12 962 (80) : Cond) ∈ Om := ot_64 _ (List.mem_of_getElem? (i := 7) rfl)
theorem om_1544 : (.code yX12_check cX12_check 5 (some .int) : Cond) ∈ Om := ot_64 _ (List.mem_of_getElem? (i := 8) rfl)
theorem om_1545 : (.methodLink RX12 968 yX12_check : Cond) ∈ Om := ot_64 _ (List.mem_of_getElem? (i := 9) rfl)
theorem om_1546 : (.static yX12_check : Cond) ∈ Om := ot_64 _ (List.mem_of_getElem? (i := 10) rfl)
theorem om_1547 : (.constantLong RX12 966 (2) : Cond) ∈ Om := ot_64 _ (List.mem_of_getElem? (i := 11) rfl)
theorem om_1548 : (.constantLong RX12 964 (-2) : Cond) ∈ Om := ot_64 _ (List.mem_of_getElem? (i := 12) rfl)
theorem om_1549 : (.code yX12_putPicture cX12_putPicture 6 (some .boolean) : Cond) ∈ Om := ot_64 _ (List.mem_of_getElem? (i := 13) rfl)
theorem om_1550 : (.methodLink RX12 972 yX12_putPicture : Cond) ∈ Om := ot_64 _ (List.mem_of_getElem? (i := 14) rfl)
theorem om_1551 : (.instanceMethod yX12_putPicture : Cond) ∈ Om := ot_64 _ (List.mem_of_getElem? (i := 15) rfl)
theorem om_1552 : (.selects RX12 yX12_putPicture yX12_putPicture : Cond) ∈ Om := ot_64 _ (List.mem_of_getElem? (i := 16) rfl)
theorem om_1553 : (.constantLong RX12 981 (100) : Cond) ∈ Om := ot_64 _ (List.mem_of_getElem? (i := 17) rfl)
theorem om_1554 : (.code yX12_takeNumber cX12_takeNumber 5 (some .long) : Cond) ∈ Om := ot_64 _ (List.mem_of_getElem? (i := 18) rfl)
theorem om_1555 : (.methodLink RX12 983 yX12_takeNumber : Cond) ∈ Om := ot_64 _ (List.mem_of_getElem? (i := 19) rfl)
theorem om_1556 : (.instanceMethod yX12_takeNumber : Cond) ∈ Om := ot_64 _ (List.mem_of_getElem? (i := 20) rfl)
theorem om_1557 : (.selects RX12 yX12_takeNumber yX12_takeNumber : Cond) ∈ Om := ot_64 _ (List.mem_of_getElem? (i := 21) rfl)
theorem om_1558 : (.code yX12_takeSlot cX12_takeSlot 9 none : Cond) ∈ Om := ot_64 _ (List.mem_of_getElem? (i := 22) rfl)
theorem om_1559 : (.methodLink RX12 994 yX12_takeSlot : Cond) ∈ Om := ot_64 _ (List.mem_of_getElem? (i := 23) rfl)
theorem om_1560 : (.instanceMethod yX12_takeSlot : Cond) ∈ Om := ot_65 _ (List.mem_of_getElem? (i := 0) rfl)
theorem om_1561 : (.selects RX12 yX12_takeSlot yX12_takeSlot : Cond) ∈ Om := ot_65 _ (List.mem_of_getElem? (i := 1) rfl)
theorem om_1562 : (.code yX12_isType cX12_isType 3 (some .boolean) : Cond) ∈ Om := ot_65 _ (List.mem_of_getElem? (i := 2) rfl)
theorem om_1563 : (.methodLink RX12 988 yX12_isType : Cond) ∈ Om := ot_65 _ (List.mem_of_getElem? (i := 3) rfl)
theorem om_1564 : (.instanceMethod yX12_isType : Cond) ∈ Om := ot_65 _ (List.mem_of_getElem? (i := 4) rfl)
theorem om_1565 : (.selects RX12 yX12_isType yX12_isType : Cond) ∈ Om := ot_65 _ (List.mem_of_getElem? (i := 5) rfl)
theorem om_1566 : (.constantLong RX12 986 (399) : Cond) ∈ Om := ot_65 _ (List.mem_of_getElem? (i := 6) rfl)
theorem om_1567 : (.constantLong RX12 999 (107) : Cond) ∈ Om := ot_65 _ (List.mem_of_getElem? (i := 7) rfl)
theorem om_1568 : (.constantLong RX12 997 (108) : Cond) ∈ Om := ot_65 _ (List.mem_of_getElem? (i := 8) rfl)
theorem om_1569 : (.code yX12_meetNext cX12_meetNext 3 (some .int) : Cond) ∈ Om := ot_65 _ (List.mem_of_getElem? (i := 9) rfl)
theorem om_1570 : (.methodLink RX12 1001 yX12_meetNext : Cond) ∈ Om := ot_65 _ (List.mem_of_getElem? (i := 10) rfl)
theorem om_1571 : (.instanceMethod yX12_meetNext : Cond) ∈ Om := ot_65 _ (List.mem_of_getElem? (i := 11) rfl)
theorem om_1572 : (.selects RX12 yX12_meetNext yX12_meetNext : Cond) ∈ Om := ot_65 _ (List.mem_of_getElem? (i := 12) rfl)
theorem om_1573 : (.code yX12_takeByte cX12_takeByte 2 none : Cond) ∈ Om := ot_65 _ (List.mem_of_getElem? (i := 13) rfl)
theorem om_1574 : (.methodLink RX12 1004 yX12_takeByte : Cond) ∈ Om := ot_65 _ (List.mem_of_getElem? (i := 14) rfl)
theorem om_1575 : (.instanceMethod yX12_takeByte : Cond) ∈ Om := ot_65 _ (List.mem_of_getElem? (i := 15) rfl)
theorem om_1576 : (.selects RX12 yX12_takeByte yX12_takeByte : Cond) ∈ Om := ot_65 _ (List.mem_of_getElem? (i := 16) rfl)
theorem om_1577 : (.code yX12_checkOrder cX12_checkOrder 6 none : Cond) ∈ Om := ot_65 _ (List.mem_of_getElem? (i := 17) rfl)
theorem om_1578 : (.methodLink RX12 1018 yX12_checkOrder : Cond) ∈ Om := ot_65 _ (List.mem_of_getElem? (i := 18) rfl)
theorem om_1579 : (.instanceMethod yX12_checkOrder : Cond) ∈ Om := ot_65 _ (List.mem_of_getElem? (i := 19) rfl)
theorem om_1580 : (.selects RX12 yX12_checkOrder yX12_checkOrder : Cond) ∈ Om := ot_65 _ (List.mem_of_getElem? (i := 20) rfl)
theorem om_1581 : (.code yX12_takeRoots cX12_takeRoots 10 none : Cond) ∈ Om := ot_65 _ (List.mem_of_getElem? (i := 21) rfl)
theorem om_1582 : (.methodLink RX12 1015 yX12_takeRoots : Cond) ∈ Om := ot_65 _ (List.mem_of_getElem? (i := 22) rfl)
theorem om_1583 : (.instanceMethod yX12_takeRoots : Cond) ∈ Om := ot_65 _ (List.mem_of_getElem? (i := 23) rfl)
theorem om_1584 : (.selects RX12 yX12_takeRoots yX12_takeRoots : Cond) ∈ Om := ot_66 _ (List.mem_of_getElem? (i := 0) rfl)
theorem om_1585 : (.code yX12_checkLinks cX12_checkLinks 5 none : Cond) ∈ Om := ot_66 _ (List.mem_of_getElem? (i := 1) rfl)
theorem om_1586 : (.methodLink RX12 1012 yX12_checkLinks : Cond) ∈ Om := ot_66 _ (List.mem_of_getElem? (i := 2) rfl)
theorem om_1587 : (.instanceMethod yX12_checkLinks : Cond) ∈ Om := ot_66 _ (List.mem_of_getElem? (i := 3) rfl)
theorem om_1588 : (.selects RX12 yX12_checkLinks yX12_checkLinks : Cond) ∈ Om := ot_66 _ (List.mem_of_getElem? (i := 4) rfl)
theorem om_1589 : (.code yX12_takeThing cX12_takeThing 11 none : Cond) ∈ Om := ot_66 _ (List.mem_of_getElem? (i := 5) rfl)
theorem om_1590 : (.methodLink RX12 1009 yX12_takeThing : Cond) ∈ Om := ot_66 _ (List.mem_of_getElem? (i := 6) rfl)
theorem om_1591 : (.instanceMethod yX12_takeThing : Cond) ∈ Om := ot_66 _ (List.mem_of_getElem? (i := 7) rfl)
theorem om_1592 : (.selects RX12 yX12_takeThing yX12_takeThing : Cond) ∈ Om := ot_66 _ (List.mem_of_getElem? (i := 8) rfl)
theorem om_1593 : (.constantLong RX12 1007 (400) : Cond) ∈ Om := ot_66 _ (List.mem_of_getElem? (i := 9) rfl)
theorem om_1594 : (.code yX12_takePicture cX12_takePicture 6 none : Cond) ∈ Om := ot_66 _ (List.mem_of_getElem? (i := 10) rfl)
theorem om_1595 : (.methodLink RX12 1021 yX12_takePicture : Cond) ∈ Om := ot_66 _ (List.mem_of_getElem? (i := 11) rfl)
theorem om_1596 : (.instanceMethod yX12_takePicture : Cond) ∈ Om := ot_66 _ (List.mem_of_getElem? (i := 12) rfl)
theorem om_1597 : (.selects RX12 yX12_takePicture yX12_takePicture : Cond) ∈ Om := ot_66 _ (List.mem_of_getElem? (i := 13) rfl)
theorem om_1598 : (.code yX12_copyNow cX12_copyNow 3 none : Cond) ∈ Om := ot_66 _ (List.mem_of_getElem? (i := 14) rfl)
theorem om_1599 : (.methodLink RX12 1024 yX12_copyNow : Cond) ∈ Om := ot_66 _ (List.mem_of_getElem? (i := 15) rfl)
theorem om_1600 : (.instanceMethod yX12_copyNow : Cond) ∈ Om := ot_66 _ (List.mem_of_getElem? (i := 16) rfl)
theorem om_1601 : (.selects RX12 yX12_copyNow yX12_copyNow : Cond) ∈ Om := ot_66 _ (List.mem_of_getElem? (i := 17) rfl)
theorem om_1602 : (.code yX12_takeRecord cX12_takeRecord 3 none : Cond) ∈ Om := ot_66 _ (List.mem_of_getElem? (i := 18) rfl)
theorem om_1603 : (.methodLink RX12 1033 yX12_takeRecord : Cond) ∈ Om := ot_66 _ (List.mem_of_getElem? (i := 19) rfl)
theorem om_1604 : (.instanceMethod yX12_takeRecord : Cond) ∈ Om := ot_66 _ (List.mem_of_getElem? (i := 20) rfl)
theorem om_1605 : (.selects RX12 yX12_takeRecord yX12_takeRecord : Cond) ∈ Om := ot_66 _ (List.mem_of_getElem? (i := 21) rfl)
theorem om_1606 : (.code yJ3_checkIndex_8e157 cJ3_checkIndex_8e157 3 (some .int) : Cond) ∈ Om := ot_66 _ (List.mem_of_getElem? (i := 22) rfl)
theorem om_1607 : (.methodLink RJ0 1059 yJ3_checkIndex_8e157 : Cond) ∈ Om := ot_66 _ (List.mem_of_getElem? (i := 23) rfl)
theorem om_1608 : (.static yJ3_checkIndex_8e157 : Cond) ∈ Om := ot_67 _ (List.mem_of_getElem? (i := 0) rfl)
theorem om_1609 : (.initialized RJ3 : Cond) ∈ Om := ot_67 _ (List.mem_of_getElem? (i := 1) rfl)
theorem om_1610 : (.fieldLink RJ0 1053 "jdk/internal/util/Preconditions" "SIOOBE_FORMATTER" "Ljava/util/function/BiFunction;" : Cond) ∈ Om := ot_67 _ (List.mem_of_getElem? (i := 2) rfl)
theorem om_1611 : (.methodLink RX11 3 objectInit : Cond) ∈ Om := ot_67 _ (List.mem_of_getElem? (i := 3) rfl)
theorem om_1612 : (.instanceMethod objectInit : Cond) ∈ Om := ot_67 _ (List.mem_of_getElem? (i := 4) rfl)
theorem om_1613 : (.code objectInit ⟨#[0xb1]⟩ 1 none : Cond) ∈ Om := ot_67 _ (List.mem_of_getElem? (i := 5) rfl)
theorem om_1614 : (.classLink RX11 9 RX9 : Cond) ∈ Om := ot_67 _ (List.mem_of_getElem? (i := 6) rfl)
theorem om_1615 : (.instantiable RX9 12 : Cond) ∈ Om := ot_67 _ (List.mem_of_getElem? (i := 7) rfl)
theorem om_1616 : (.methodLink RX9 3 objectInit : Cond) ∈ Om := ot_67 _ (List.mem_of_getElem? (i := 8) rfl)
theorem om_1617 : (.arrayClass .int : Cond) ∈ Om := ot_67 _ (List.mem_of_getElem? (i := 9) rfl)
theorem om_1618 : (.fieldLink RX9 11 "HeapWorks$Tape" "bytes" "[I" : Cond) ∈ Om := ot_67 _ (List.mem_of_getElem? (i := 10) rfl)
theorem om_1619 : (.fieldLink RX9 15 "HeapWorks$Tape" "ready" "[I" : Cond) ∈ Om := ot_67 _ (List.mem_of_getElem? (i := 11) rfl)
theorem om_1620 : (.fieldLink RX9 18 "HeapWorks$Tape" "words" "[I" : Cond) ∈ Om := ot_67 _ (List.mem_of_getElem? (i := 12) rfl)
theorem om_1621 : (.fieldLink RX9 21 "HeapWorks$Tape" "places" "[I" : Cond) ∈ Om := ot_67 _ (List.mem_of_getElem? (i := 13) rfl)
theorem om_1622 : (.arrayClass .long : Cond) ∈ Om := ot_67 _ (List.mem_of_getElem? (i := 14) rfl)
theorem om_1623 : (.fieldLink RX9 24 "HeapWorks$Tape" "codes" "[J" : Cond) ∈ Om := ot_67 _ (List.mem_of_getElem? (i := 15) rfl)
theorem om_1624 : (.fieldLink RX9 28 "HeapWorks$Tape" "keywords" "[J" : Cond) ∈ Om := ot_67 _ (List.mem_of_getElem? (i := 16) rfl)
theorem om_1625 : (.methodLink RX9 33 yJ0_length_8abf5 : Cond) ∈ Om := ot_67 _ (List.mem_of_getElem? (i := 17) rfl)
theorem om_1626 : (.code yJ0_checkIndex_df160 cJ0_checkIndex_df160 2 none : Cond) ∈ Om := ot_67 _ (List.mem_of_getElem? (i := 18) rfl)
theorem om_1627 : (.methodLink RJ1 9 yJ0_checkIndex_df160 : Cond) ∈ Om := ot_67 _ (List.mem_of_getElem? (i := 19) rfl)
theorem om_1628 : (.static yJ0_checkIndex_df160 : Cond) ∈ Om := ot_67 _ (List.mem_of_getElem? (i := 20) rfl)
theorem om_1629 : (.code yJ1_charAt_3b067 cJ1_charAt_3b067 2 (some .char) : Cond) ∈ Om := ot_67 _ (List.mem_of_getElem? (i := 21) rfl)
theorem om_1630 : (.methodLink RJ0 495 yJ1_charAt_3b067 : Cond) ∈ Om := ot_67 _ (List.mem_of_getElem? (i := 22) rfl)
theorem om_1631 : (.static yJ1_charAt_3b067 : Cond) ∈ Om := ot_67 _ (List.mem_of_getElem? (i := 23) rfl)
theorem om_1632 : (.code yJ0_charAt_5068e cJ0_charAt_5068e 2 (some .char) : Cond) ∈ Om := ot_68 _ (List.mem_of_getElem? (i := 0) rfl)
theorem om_1633 : (.methodLink RX9 39 yJ0_charAt_5068e : Cond) ∈ Om := ot_68 _ (List.mem_of_getElem? (i := 1) rfl)
theorem om_1634 : (.instanceMethod yJ0_charAt_5068e : Cond) ∈ Om := ot_68 _ (List.mem_of_getElem? (i := 2) rfl)
theorem om_1635 : (.selects RJ0 yJ0_charAt_5068e yJ0_charAt_5068e : Cond) ∈ Om := ot_68 _ (List.mem_of_getElem? (i := 3) rfl)
theorem om_1636 : (.code yX9_init cX9_init 5 none : Cond) ∈ Om := ot_68 _ (List.mem_of_getElem? (i := 4) rfl)
theorem om_1637 : (.methodLink RX11 11 yX9_init : Cond) ∈ Om := ot_68 _ (List.mem_of_getElem? (i := 5) rfl)
theorem om_1638 : (.instanceMethod yX9_init : Cond) ∈ Om := ot_68 _ (List.mem_of_getElem? (i := 6) rfl)
theorem om_1639 : (.fieldLink RX11 12 "HeapWorks" "tape" "LHeapWorks$Tape;" : Cond) ∈ Om := ot_68 _ (List.mem_of_getElem? (i := 7) rfl)
theorem om_1640 : (.classLink RX11 16 RX10 : Cond) ∈ Om := ot_68 _ (List.mem_of_getElem? (i := 8) rfl)
theorem om_1641 : (.instantiable RX10 18 : Cond) ∈ Om := ot_68 _ (List.mem_of_getElem? (i := 9) rfl)
theorem om_1642 : (.methodLink RX10 5 objectInit : Cond) ∈ Om := ot_68 _ (List.mem_of_getElem? (i := 10) rfl)
theorem om_1643 : (.fieldLink RX10 11 "HeapWorks$Types" "name" "[J" : Cond) ∈ Om := ot_68 _ (List.mem_of_getElem? (i := 11) rfl)
theorem om_1644 : (.fieldLink RX10 15 "HeapWorks$Types" "loader" "[I" : Cond) ∈ Om := ot_68 _ (List.mem_of_getElem? (i := 12) rfl)
theorem om_1645 : (.fieldLink RX10 19 "HeapWorks$Types" "parent" "[I" : Cond) ∈ Om := ot_68 _ (List.mem_of_getElem? (i := 13) rfl)
theorem om_1646 : (.arrayClass .boolean : Cond) ∈ Om := ot_68 _ (List.mem_of_getElem? (i := 14) rfl)
theorem om_1647 : (.fieldLink RX10 22 "HeapWorks$Types" "used" "[Z" : Cond) ∈ Om := ot_68 _ (List.mem_of_getElem? (i := 15) rfl)
theorem om_1648 : (.fieldLink RX10 26 "HeapWorks$Types" "apart" "[Z" : Cond) ∈ Om := ot_68 _ (List.mem_of_getElem? (i := 16) rfl)
theorem om_1649 : (.fieldLink RX10 29 "HeapWorks$Types" "fieldCount" "[I" : Cond) ∈ Om := ot_68 _ (List.mem_of_getElem? (i := 17) rfl)
theorem om_1650 : (.fieldLink RX10 32 "HeapWorks$Types" "staticCount" "[I" : Cond) ∈ Om := ot_68 _ (List.mem_of_getElem? (i := 18) rfl)
theorem om_1651 : (.fieldLink RX10 35 "HeapWorks$Types" "slotCount" "[I" : Cond) ∈ Om := ot_68 _ (List.mem_of_getElem? (i := 19) rfl)
theorem om_1652 : (.fieldLink RX10 38 "HeapWorks$Types" "fieldsEnd" "[I" : Cond) ∈ Om := ot_68 _ (List.mem_of_getElem? (i := 20) rfl)
theorem om_1653 : (.fieldLink RX10 41 "HeapWorks$Types" "fieldName" "[J" : Cond) ∈ Om := ot_68 _ (List.mem_of_getElem? (i := 21) rfl)
theorem om_1654 : (.fieldLink RX10 44 "HeapWorks$Types" "fieldKind" "[I" : Cond) ∈ Om := ot_68 _ (List.mem_of_getElem? (i := 22) rfl)
theorem om_1655 : (.fieldLink RX10 47 "HeapWorks$Types" "fieldLink" "[I" : Cond) ∈ Om := ot_68 _ (List.mem_of_getElem? (i := 23) rfl)
theorem om_1656 : (.fieldLink RX10 50 "HeapWorks$Types" "fieldStatic" "[Z" : Cond) ∈ Om := ot_69 _ (List.mem_of_getElem? (i := 0) rfl)
theorem om_1657 : (.fieldLink RX10 53 "HeapWorks$Types" "fieldPlace" "[I" : Cond) ∈ Om := ot_69 _ (List.mem_of_getElem? (i := 1) rfl)
theorem om_1658 : (.fieldLink RX10 56 "HeapWorks$Types" "slotName" "[J" : Cond) ∈ Om := ot_69 _ (List.mem_of_getElem? (i := 2) rfl)
theorem om_1659 : (.fieldLink RX10 59 "HeapWorks$Types" "slotKind" "[I" : Cond) ∈ Om := ot_69 _ (List.mem_of_getElem? (i := 3) rfl)
theorem om_1660 : (.fieldLink RX10 62 "HeapWorks$Types" "slotLink" "[I" : Cond) ∈ Om := ot_69 _ (List.mem_of_getElem? (i := 4) rfl)
theorem om_1661 : (.code yX10_init cX10_init 1 none : Cond) ∈ Om := ot_69 _ (List.mem_of_getElem? (i := 5) rfl)
theorem om_1662 : (.methodLink RX11 18 yX10_init : Cond) ∈ Om := ot_69 _ (List.mem_of_getElem? (i := 6) rfl)
theorem om_1663 : (.instanceMethod yX10_init : Cond) ∈ Om := ot_69 _ (List.mem_of_getElem? (i := 7) rfl)
theorem om_1664 : (.fieldLink RX11 19 "HeapWorks" "types" "LHeapWorks$Types;" : Cond) ∈ Om := ot_69 _ (List.mem_of_getElem? (i := 8) rfl)
theorem om_1665 : (.classLink RX11 23 RX2 : Cond) ∈ Om := ot_69 _ (List.mem_of_getElem? (i := 9) rfl)
theorem om_1666 : (.instantiable RX2 14 : Cond) ∈ Om := ot_69 _ (List.mem_of_getElem? (i := 10) rfl)
theorem om_1667 : (.methodLink RX2 3 objectInit : Cond) ∈ Om := ot_69 _ (List.mem_of_getElem? (i := 11) rfl)
theorem om_1668 : (.fieldLink RX2 9 "HeapWorks$Heap" "types" "LHeapWorks$Types;" : Cond) ∈ Om := ot_69 _ (List.mem_of_getElem? (i := 12) rfl)
theorem om_1669 : (.fieldLink RX2 15 "HeapWorks$Heap" "type" "[I" : Cond) ∈ Om := ot_69 _ (List.mem_of_getElem? (i := 13) rfl)
theorem om_1670 : (.fieldLink RX2 19 "HeapWorks$Heap" "length" "[I" : Cond) ∈ Om := ot_69 _ (List.mem_of_getElem? (i := 14) rfl)
theorem om_1671 : (.fieldLink RX2 22 "HeapWorks$Heap" "first" "[I" : Cond) ∈ Om := ot_69 _ (List.mem_of_getElem? (i := 15) rfl)
theorem om_1672 : (.fieldLink RX2 25 "HeapWorks$Heap" "value" "[J" : Cond) ∈ Om := ot_69 _ (List.mem_of_getElem? (i := 16) rfl)
theorem om_1673 : (.fieldLink RX2 29 "HeapWorks$Heap" "link" "[Z" : Cond) ∈ Om := ot_69 _ (List.mem_of_getElem? (i := 17) rfl)
theorem om_1674 : (.fieldLink RX2 35 "HeapWorks$Heap" "statics" "[J" : Cond) ∈ Om := ot_69 _ (List.mem_of_getElem? (i := 18) rfl)
theorem om_1675 : (.fieldLink RX2 38 "HeapWorks$Heap" "roots" "[I" : Cond) ∈ Om := ot_69 _ (List.mem_of_getElem? (i := 19) rfl)
theorem om_1676 : (.fieldLink RX2 41 "HeapWorks$Heap" "order" "[I" : Cond) ∈ Om := ot_69 _ (List.mem_of_getElem? (i := 20) rfl)
theorem om_1677 : (.fieldLink RX2 44 "HeapWorks$Heap" "mark" "[I" : Cond) ∈ Om := ot_69 _ (List.mem_of_getElem? (i := 21) rfl)
theorem om_1678 : (.code yX2_init cX2_init 2 none : Cond) ∈ Om := ot_69 _ (List.mem_of_getElem? (i := 22) rfl)
theorem om_1679 : (.methodLink RX11 25 yX2_init : Cond) ∈ Om := ot_69 _ (List.mem_of_getElem? (i := 23) rfl)
theorem om_1680 : (.instanceMethod yX2_init : Cond) ∈ Om := ot_70 _ (List.mem_of_getElem? (i := 0) rfl)
theorem om_1681 : (.fieldLink RX11 28 "HeapWorks" "heap" "LHeapWorks$Heap;" : Cond) ∈ Om := ot_70 _ (List.mem_of_getElem? (i := 1) rfl)
theorem om_1682 : (.classLink RX11 32 RX3 : Cond) ∈ Om := ot_70 _ (List.mem_of_getElem? (i := 2) rfl)
theorem om_1683 : (.instantiable RX3 13 : Cond) ∈ Om := ot_70 _ (List.mem_of_getElem? (i := 3) rfl)
theorem om_1684 : (.methodLink RX3 3 objectInit : Cond) ∈ Om := ot_70 _ (List.mem_of_getElem? (i := 4) rfl)
theorem om_1685 : (.fieldLink RX3 9 "HeapWorks$Journal" "types" "LHeapWorks$Types;" : Cond) ∈ Om := ot_70 _ (List.mem_of_getElem? (i := 5) rfl)
theorem om_1686 : (.fieldLink RX3 15 "HeapWorks$Journal" "undoWrite" "[I" : Cond) ∈ Om := ot_70 _ (List.mem_of_getElem? (i := 6) rfl)
theorem om_1687 : (.fieldLink RX3 19 "HeapWorks$Journal" "undoPlace" "[I" : Cond) ∈ Om := ot_70 _ (List.mem_of_getElem? (i := 7) rfl)
theorem om_1688 : (.fieldLink RX3 22 "HeapWorks$Journal" "undoValue" "[J" : Cond) ∈ Om := ot_70 _ (List.mem_of_getElem? (i := 8) rfl)
theorem om_1689 : (.fieldLink RX3 26 "HeapWorks$Journal" "watchType" "[I" : Cond) ∈ Om := ot_70 _ (List.mem_of_getElem? (i := 9) rfl)
theorem om_1690 : (.fieldLink RX3 29 "HeapWorks$Journal" "watchField" "[I" : Cond) ∈ Om := ot_70 _ (List.mem_of_getElem? (i := 10) rfl)
theorem om_1691 : (.fieldLink RX3 32 "HeapWorks$Journal" "watchCondition" "[I" : Cond) ∈ Om := ot_70 _ (List.mem_of_getElem? (i := 11) rfl)
theorem om_1692 : (.fieldLink RX3 35 "HeapWorks$Journal" "rowCount" "[I" : Cond) ∈ Om := ot_70 _ (List.mem_of_getElem? (i := 12) rfl)
theorem om_1693 : (.fieldLink RX3 38 "HeapWorks$Journal" "rowParts" "[J" : Cond) ∈ Om := ot_70 _ (List.mem_of_getElem? (i := 13) rfl)
theorem om_1694 : (.code yX3_init cX3_init 2 none : Cond) ∈ Om := ot_70 _ (List.mem_of_getElem? (i := 14) rfl)
theorem om_1695 : (.methodLink RX11 34 yX3_init : Cond) ∈ Om := ot_70 _ (List.mem_of_getElem? (i := 15) rfl)
theorem om_1696 : (.instanceMethod yX3_init : Cond) ∈ Om := ot_70 _ (List.mem_of_getElem? (i := 16) rfl)
theorem om_1697 : (.fieldLink RX11 35 "HeapWorks" "journal" "LHeapWorks$Journal;" : Cond) ∈ Om := ot_70 _ (List.mem_of_getElem? (i := 17) rfl)
theorem om_1698 : (.classLink RX11 39 "HeapWorks$Picture" : Cond) ∈ Om := ot_70 _ (List.mem_of_getElem? (i := 18) rfl)
theorem om_1699 : (.fieldLink RX11 41 "HeapWorks" "pictures" "[LHeapWorks$Picture;" : Cond) ∈ Om := ot_70 _ (List.mem_of_getElem? (i := 19) rfl)
theorem om_1700 : (.classLink RX11 39 RX5 : Cond) ∈ Om := ot_70 _ (List.mem_of_getElem? (i := 20) rfl)
theorem om_1701 : (.instantiable RX5 21 : Cond) ∈ Om := ot_70 _ (List.mem_of_getElem? (i := 21) rfl)
theorem om_1702 : (.methodLink RX5 3 objectInit : Cond) ∈ Om := ot_70 _ (List.mem_of_getElem? (i := 22) rfl)
theorem om_1703 : (.fieldLink RX5 11 "HeapWorks$Picture" "object" "[I" : Cond) ∈ Om := ot_70 _ (List.mem_of_getElem? (i := 23) rfl)
theorem om_1704 : (.fieldLink RX5 15 "HeapWorks$Picture" "type" "[I" : Cond) ∈ Om := ot_71 _ (List.mem_of_getElem? (i := 0) rfl)
theorem om_1705 : (.fieldLink RX5 18 "HeapWorks$Picture" "length" "[I" : Cond) ∈ Om := ot_71 _ (List.mem_of_getElem? (i := 1) rfl)
theorem om_1706 : (.fieldLink RX5 21 "HeapWorks$Picture" "first" "[I" : Cond) ∈ Om := ot_71 _ (List.mem_of_getElem? (i := 2) rfl)
theorem om_1707 : (.fieldLink RX5 24 "HeapWorks$Picture" "depth" "[I" : Cond) ∈ Om := ot_71 _ (List.mem_of_getElem? (i := 3) rfl)
theorem om_1708 : (.fieldLink RX5 27 "HeapWorks$Picture" "wayThing" "[I" : Cond) ∈ Om := ot_71 _ (List.mem_of_getElem? (i := 4) rfl)
theorem om_1709 : (.fieldLink RX5 30 "HeapWorks$Picture" "waySlot" "[I" : Cond) ∈ Om := ot_71 _ (List.mem_of_getElem? (i := 5) rfl)
theorem om_1710 : (.fieldLink RX5 35 "HeapWorks$Picture" "thingOf" "[I" : Cond) ∈ Om := ot_71 _ (List.mem_of_getElem? (i := 6) rfl)
theorem om_1711 : (.methodLink RX5 38 yJ7_fill_53178 : Cond) ∈ Om := ot_71 _ (List.mem_of_getElem? (i := 7) rfl)
theorem om_1712 : (.fieldLink RX5 44 "HeapWorks$Picture" "value" "[J" : Cond) ∈ Om := ot_71 _ (List.mem_of_getElem? (i := 8) rfl)
theorem om_1713 : (.fieldLink RX5 48 "HeapWorks$Picture" "link" "[Z" : Cond) ∈ Om := ot_71 _ (List.mem_of_getElem? (i := 9) rfl)
theorem om_1714 : (.fieldLink RX5 52 "HeapWorks$Picture" "rootNumber" "[I" : Cond) ∈ Om := ot_71 _ (List.mem_of_getElem? (i := 10) rfl)
theorem om_1715 : (.fieldLink RX5 55 "HeapWorks$Picture" "rootThing" "[I" : Cond) ∈ Om := ot_71 _ (List.mem_of_getElem? (i := 11) rfl)
theorem om_1716 : (.fieldLink RX5 58 "HeapWorks$Picture" "chosen" "[Z" : Cond) ∈ Om := ot_71 _ (List.mem_of_getElem? (i := 12) rfl)
theorem om_1717 : (.fieldLink RX5 61 "HeapWorks$Picture" "lostThings" "[I" : Cond) ∈ Om := ot_71 _ (List.mem_of_getElem? (i := 13) rfl)
theorem om_1718 : (.fieldLink RX5 64 "HeapWorks$Picture" "mark" "[I" : Cond) ∈ Om := ot_71 _ (List.mem_of_getElem? (i := 14) rfl)
theorem om_1719 : (.fieldLink RX5 67 "HeapWorks$Picture" "mate" "[I" : Cond) ∈ Om := ot_71 _ (List.mem_of_getElem? (i := 15) rfl)
theorem om_1720 : (.fieldLink RX5 70 "HeapWorks$Picture" "queue" "[I" : Cond) ∈ Om := ot_71 _ (List.mem_of_getElem? (i := 16) rfl)
theorem om_1721 : (.classLink RX5 73 RX8 : Cond) ∈ Om := ot_71 _ (List.mem_of_getElem? (i := 17) rfl)
theorem om_1722 : (.instantiable RX8 18 : Cond) ∈ Om := ot_71 _ (List.mem_of_getElem? (i := 18) rfl)
theorem om_1723 : (.methodLink RX8 3 objectInit : Cond) ∈ Om := ot_71 _ (List.mem_of_getElem? (i := 19) rfl)
theorem om_1724 : (.fieldLink RX8 9 "HeapWorks$Shape" "types" "LHeapWorks$Types;" : Cond) ∈ Om := ot_71 _ (List.mem_of_getElem? (i := 20) rfl)
theorem om_1725 : (.fieldLink RX8 17 "HeapWorks$Shape" "holderFirst" "[I" : Cond) ∈ Om := ot_71 _ (List.mem_of_getElem? (i := 21) rfl)
theorem om_1726 : (.fieldLink RX8 21 "HeapWorks$Shape" "holderThing" "[I" : Cond) ∈ Om := ot_71 _ (List.mem_of_getElem? (i := 22) rfl)
theorem om_1727 : (.fieldLink RX8 24 "HeapWorks$Shape" "holderSlot" "[I" : Cond) ∈ Om := ot_71 _ (List.mem_of_getElem? (i := 23) rfl)
theorem om_1728 : (.fieldLink RX8 27 "HeapWorks$Shape" "dominator" "[I" : Cond) ∈ Om := ot_72 _ (List.mem_of_getElem? (i := 0) rfl)
theorem om_1729 : (.fieldLink RX8 30 "HeapWorks$Shape" "kept" "[I" : Cond) ∈ Om := ot_72 _ (List.mem_of_getElem? (i := 1) rfl)
theorem om_1730 : (.fieldLink RX8 33 "HeapWorks$Shape" "dominated" "[I" : Cond) ∈ Om := ot_72 _ (List.mem_of_getElem? (i := 2) rfl)
theorem om_1731 : (.fieldLink RX8 36 "HeapWorks$Shape" "ring" "[I" : Cond) ∈ Om := ot_72 _ (List.mem_of_getElem? (i := 3) rfl)
theorem om_1732 : (.fieldLink RX8 39 "HeapWorks$Shape" "twin" "[I" : Cond) ∈ Om := ot_72 _ (List.mem_of_getElem? (i := 4) rfl)
theorem om_1733 : (.fieldLink RX8 42 "HeapWorks$Shape" "order" "[I" : Cond) ∈ Om := ot_72 _ (List.mem_of_getElem? (i := 5) rfl)
theorem om_1734 : (.fieldLink RX8 45 "HeapWorks$Shape" "low" "[I" : Cond) ∈ Om := ot_72 _ (List.mem_of_getElem? (i := 6) rfl)
theorem om_1735 : (.fieldLink RX8 48 "HeapWorks$Shape" "stack" "[I" : Cond) ∈ Om := ot_72 _ (List.mem_of_getElem? (i := 7) rfl)
theorem om_1736 : (.fieldLink RX8 51 "HeapWorks$Shape" "path" "[I" : Cond) ∈ Om := ot_72 _ (List.mem_of_getElem? (i := 8) rfl)
theorem om_1737 : (.fieldLink RX8 54 "HeapWorks$Shape" "cursor" "[I" : Cond) ∈ Om := ot_72 _ (List.mem_of_getElem? (i := 9) rfl)
theorem om_1738 : (.fieldLink RX8 57 "HeapWorks$Shape" "bucket" "[I" : Cond) ∈ Om := ot_72 _ (List.mem_of_getElem? (i := 10) rfl)
theorem om_1739 : (.code yX8_init cX8_init 2 none : Cond) ∈ Om := ot_72 _ (List.mem_of_getElem? (i := 11) rfl)
theorem om_1740 : (.methodLink RX5 75 yX8_init : Cond) ∈ Om := ot_72 _ (List.mem_of_getElem? (i := 12) rfl)
theorem om_1741 : (.instanceMethod yX8_init : Cond) ∈ Om := ot_72 _ (List.mem_of_getElem? (i := 13) rfl)
theorem om_1742 : (.fieldLink RX5 78 "HeapWorks$Picture" "shape" "LHeapWorks$Shape;" : Cond) ∈ Om := ot_72 _ (List.mem_of_getElem? (i := 14) rfl)
theorem om_1743 : (.code yX5_init cX5_init 2 none : Cond) ∈ Om := ot_72 _ (List.mem_of_getElem? (i := 15) rfl)
theorem om_1744 : (.methodLink RX11 45 yX5_init : Cond) ∈ Om := ot_72 _ (List.mem_of_getElem? (i := 16) rfl)
theorem om_1745 : (.instanceMethod yX5_init : Cond) ∈ Om := ot_72 _ (List.mem_of_getElem? (i := 17) rfl)
theorem om_1746 : (.fieldLink RX11 46 "HeapWorks" "spare" "LHeapWorks$Picture;" : Cond) ∈ Om := ot_72 _ (List.mem_of_getElem? (i := 18) rfl)
theorem om_1747 : (.classLink RX11 50 RX6 : Cond) ∈ Om := ot_72 _ (List.mem_of_getElem? (i := 19) rfl)
theorem om_1748 : (.instantiable RX6 19 : Cond) ∈ Om := ot_72 _ (List.mem_of_getElem? (i := 20) rfl)
theorem om_1749 : (.methodLink RX6 3 objectInit : Cond) ∈ Om := ot_72 _ (List.mem_of_getElem? (i := 21) rfl)
theorem om_1750 : (.fieldLink RX6 9 "HeapWorks$Program" "tape" "LHeapWorks$Tape;" : Cond) ∈ Om := ot_72 _ (List.mem_of_getElem? (i := 22) rfl)
theorem om_1751 : (.fieldLink RX6 15 "HeapWorks$Program" "op" "[I" : Cond) ∈ Om := ot_72 _ (List.mem_of_getElem? (i := 23) rfl)
theorem om_1752 : (.fieldLink RX6 19 "HeapWorks$Program" "frame" "[I" : Cond) ∈ Om := ot_73 _ (List.mem_of_getElem? (i := 0) rfl)
theorem om_1753 : (.fieldLink RX6 22 "HeapWorks$Program" "target" "[I" : Cond) ∈ Om := ot_73 _ (List.mem_of_getElem? (i := 1) rfl)
theorem om_1754 : (.fieldLink RX6 25 "HeapWorks$Program" "detail" "[J" : Cond) ∈ Om := ot_73 _ (List.mem_of_getElem? (i := 2) rfl)
theorem om_1755 : (.fieldLink RX6 29 "HeapWorks$Program" "scopeName" "[J" : Cond) ∈ Om := ot_73 _ (List.mem_of_getElem? (i := 3) rfl)
theorem om_1756 : (.fieldLink RX6 32 "HeapWorks$Program" "scopeFrame" "[I" : Cond) ∈ Om := ot_73 _ (List.mem_of_getElem? (i := 4) rfl)
theorem om_1757 : (.fieldLink RX6 35 "HeapWorks$Program" "waiting" "[I" : Cond) ∈ Om := ot_73 _ (List.mem_of_getElem? (i := 5) rfl)
theorem om_1758 : (.code yX6_init cX6_init 2 none : Cond) ∈ Om := ot_73 _ (List.mem_of_getElem? (i := 6) rfl)
theorem om_1759 : (.methodLink RX11 52 yX6_init : Cond) ∈ Om := ot_73 _ (List.mem_of_getElem? (i := 7) rfl)
theorem om_1760 : (.instanceMethod yX6_init : Cond) ∈ Om := ot_73 _ (List.mem_of_getElem? (i := 8) rfl)
theorem om_1761 : (.fieldLink RX11 55 "HeapWorks" "question" "LHeapWorks$Program;" : Cond) ∈ Om := ot_73 _ (List.mem_of_getElem? (i := 9) rfl)
theorem om_1762 : (.classLink RX11 59 RX4 : Cond) ∈ Om := ot_73 _ (List.mem_of_getElem? (i := 10) rfl)
theorem om_1763 : (.instantiable RX4 21 : Cond) ∈ Om := ot_73 _ (List.mem_of_getElem? (i := 11) rfl)
theorem om_1764 : (.methodLink RX4 5 objectInit : Cond) ∈ Om := ot_73 _ (List.mem_of_getElem? (i := 12) rfl)
theorem om_1765 : (.fieldLink RX4 11 "HeapWorks$Machine" "types" "LHeapWorks$Types;" : Cond) ∈ Om := ot_73 _ (List.mem_of_getElem? (i := 13) rfl)
theorem om_1766 : (.fieldLink RX4 19 "HeapWorks$Machine" "sort" "[I" : Cond) ∈ Om := ot_73 _ (List.mem_of_getElem? (i := 14) rfl)
theorem om_1767 : (.fieldLink RX4 23 "HeapWorks$Machine" "value" "[J" : Cond) ∈ Om := ot_73 _ (List.mem_of_getElem? (i := 15) rfl)
theorem om_1768 : (.fieldLink RX4 27 "HeapWorks$Machine" "setKind" "[I" : Cond) ∈ Om := ot_73 _ (List.mem_of_getElem? (i := 16) rfl)
theorem om_1769 : (.fieldLink RX4 30 "HeapWorks$Machine" "source" "[I" : Cond) ∈ Om := ot_73 _ (List.mem_of_getElem? (i := 17) rfl)
theorem om_1770 : (.fieldLink RX4 33 "HeapWorks$Machine" "cursor" "[I" : Cond) ∈ Om := ot_73 _ (List.mem_of_getElem? (i := 18) rfl)
theorem om_1771 : (.fieldLink RX4 36 "HeapWorks$Machine" "bound" "[I" : Cond) ∈ Om := ot_73 _ (List.mem_of_getElem? (i := 19) rfl)
theorem om_1772 : (.fieldLink RX4 39 "HeapWorks$Machine" "current" "[I" : Cond) ∈ Om := ot_73 _ (List.mem_of_getElem? (i := 20) rfl)
theorem om_1773 : (.fieldLink RX4 42 "HeapWorks$Machine" "total" "[J" : Cond) ∈ Om := ot_73 _ (List.mem_of_getElem? (i := 21) rfl)
theorem om_1774 : (.fieldLink RX4 45 "HeapWorks$Machine" "found" "[Z" : Cond) ∈ Om := ot_73 _ (List.mem_of_getElem? (i := 22) rfl)
theorem om_1775 : (.fieldLink RX4 49 "HeapWorks$Machine" "queue" "[I" : Cond) ∈ Om := ot_73 _ (List.mem_of_getElem? (i := 23) rfl)
theorem om_1776 : (.fieldLink RX4 52 "HeapWorks$Machine" "seen" "[I" : Cond) ∈ Om := ot_74 _ (List.mem_of_getElem? (i := 0) rfl)
theorem om_1777 : (.fieldLink RX4 55 "HeapWorks$Machine" "stamp" "[I" : Cond) ∈ Om := ot_74 _ (List.mem_of_getElem? (i := 1) rfl)
theorem om_1778 : (.fieldLink RX4 58 "HeapWorks$Machine" "rowThing" "[I" : Cond) ∈ Om := ot_74 _ (List.mem_of_getElem? (i := 2) rfl)
theorem om_1779 : (.fieldLink RX4 61 "HeapWorks$Machine" "rowSort" "[I" : Cond) ∈ Om := ot_74 _ (List.mem_of_getElem? (i := 3) rfl)
theorem om_1780 : (.fieldLink RX4 64 "HeapWorks$Machine" "rowValue" "[J" : Cond) ∈ Om := ot_74 _ (List.mem_of_getElem? (i := 4) rfl)
theorem om_1781 : (.code yX4_init cX4_init 2 none : Cond) ∈ Om := ot_74 _ (List.mem_of_getElem? (i := 5) rfl)
theorem om_1782 : (.methodLink RX11 61 yX4_init : Cond) ∈ Om := ot_74 _ (List.mem_of_getElem? (i := 6) rfl)
theorem om_1783 : (.instanceMethod yX4_init : Cond) ∈ Om := ot_74 _ (List.mem_of_getElem? (i := 7) rfl)
theorem om_1784 : (.fieldLink RX11 62 "HeapWorks" "machine" "LHeapWorks$Machine;" : Cond) ∈ Om := ot_74 _ (List.mem_of_getElem? (i := 8) rfl)
theorem om_1785 : (.classLink RX11 50 "HeapWorks$Program" : Cond) ∈ Om := ot_74 _ (List.mem_of_getElem? (i := 9) rfl)
theorem om_1786 : (.fieldLink RX11 66 "HeapWorks" "promised" "[LHeapWorks$Program;" : Cond) ∈ Om := ot_74 _ (List.mem_of_getElem? (i := 10) rfl)
theorem om_1787 : (.fieldLink RX11 70 "HeapWorks" "brokenBy" "[I" : Cond) ∈ Om := ot_74 _ (List.mem_of_getElem? (i := 11) rfl)
theorem om_1788 : (.classLink RX11 74 RX7 : Cond) ∈ Om := ot_74 _ (List.mem_of_getElem? (i := 12) rfl)
theorem om_1789 : (.instantiable RX7 21 : Cond) ∈ Om := ot_74 _ (List.mem_of_getElem? (i := 13) rfl)
theorem om_1790 : (.methodLink RX7 3 objectInit : Cond) ∈ Om := ot_74 _ (List.mem_of_getElem? (i := 14) rfl)
theorem om_1791 : (.fieldLink RX7 9 "HeapWorks$RuleText" "tape" "LHeapWorks$Tape;" : Cond) ∈ Om := ot_74 _ (List.mem_of_getElem? (i := 15) rfl)
theorem om_1792 : (.code yX9_codeOf cX9_codeOf 4 (some .long) : Cond) ∈ Om := ot_74 _ (List.mem_of_getElem? (i := 16) rfl)
theorem om_1793 : (.methodLink RX7 17 yX9_codeOf : Cond) ∈ Om := ot_74 _ (List.mem_of_getElem? (i := 17) rfl)
theorem om_1794 : (.static yX9_codeOf : Cond) ∈ Om := ot_74 _ (List.mem_of_getElem? (i := 18) rfl)
theorem om_1795 : (.fieldLink RX7 23 "HeapWorks$RuleText" "ifCode" "J" : Cond) ∈ Om := ot_74 _ (List.mem_of_getElem? (i := 19) rfl)
theorem om_1796 : (.fieldLink RX7 29 "HeapWorks$RuleText" "linkCode" "J" : Cond) ∈ Om := ot_74 _ (List.mem_of_getElem? (i := 20) rfl)
theorem om_1797 : (.fieldLink RX7 32 "HeapWorks$RuleText" "headRelation" "[I" : Cond) ∈ Om := ot_74 _ (List.mem_of_getElem? (i := 21) rfl)
theorem om_1798 : (.fieldLink RX7 36 "HeapWorks$RuleText" "headA" "[I" : Cond) ∈ Om := ot_74 _ (List.mem_of_getElem? (i := 22) rfl)
theorem om_1799 : (.fieldLink RX7 39 "HeapWorks$RuleText" "headB" "[I" : Cond) ∈ Om := ot_74 _ (List.mem_of_getElem? (i := 23) rfl)
theorem om_1800 : (.fieldLink RX7 42 "HeapWorks$RuleText" "variableCount" "[I" : Cond) ∈ Om := ot_75 _ (List.mem_of_getElem? (i := 0) rfl)
theorem om_1801 : (.fieldLink RX7 45 "HeapWorks$RuleText" "bodyCount" "[I" : Cond) ∈ Om := ot_75 _ (List.mem_of_getElem? (i := 1) rfl)
theorem om_1802 : (.fieldLink RX7 48 "HeapWorks$RuleText" "bodyRelation" "[I" : Cond) ∈ Om := ot_75 _ (List.mem_of_getElem? (i := 2) rfl)
theorem om_1803 : (.fieldLink RX7 51 "HeapWorks$RuleText" "bodyA" "[I" : Cond) ∈ Om := ot_75 _ (List.mem_of_getElem? (i := 3) rfl)
theorem om_1804 : (.fieldLink RX7 54 "HeapWorks$RuleText" "bodyB" "[I" : Cond) ∈ Om := ot_75 _ (List.mem_of_getElem? (i := 4) rfl)
theorem om_1805 : (.fieldLink RX7 57 "HeapWorks$RuleText" "bodyName" "[J" : Cond) ∈ Om := ot_75 _ (List.mem_of_getElem? (i := 5) rfl)
theorem om_1806 : (.fieldLink RX7 61 "HeapWorks$RuleText" "variableName" "[J" : Cond) ∈ Om := ot_75 _ (List.mem_of_getElem? (i := 6) rfl)
theorem om_1807 : (.fieldLink RX7 64 "HeapWorks$RuleText" "relationName" "[J" : Cond) ∈ Om := ot_75 _ (List.mem_of_getElem? (i := 7) rfl)
theorem om_1808 : (.fieldLink RX7 67 "HeapWorks$RuleText" "arity" "[I" : Cond) ∈ Om := ot_75 _ (List.mem_of_getElem? (i := 8) rfl)
theorem om_1809 : (.code yX7_init cX7_init 2 none : Cond) ∈ Om := ot_75 _ (List.mem_of_getElem? (i := 9) rfl)
theorem om_1810 : (.methodLink RX11 76 yX7_init : Cond) ∈ Om := ot_75 _ (List.mem_of_getElem? (i := 10) rfl)
theorem om_1811 : (.instanceMethod yX7_init : Cond) ∈ Om := ot_75 _ (List.mem_of_getElem? (i := 11) rfl)
theorem om_1812 : (.fieldLink RX11 77 "HeapWorks" "ruleText" "LHeapWorks$RuleText;" : Cond) ∈ Om := ot_75 _ (List.mem_of_getElem? (i := 12) rfl)
theorem om_1813 : (.classLink RX11 81 RX1 : Cond) ∈ Om := ot_75 _ (List.mem_of_getElem? (i := 13) rfl)
theorem om_1814 : (.instantiable RX1 10 : Cond) ∈ Om := ot_75 _ (List.mem_of_getElem? (i := 14) rfl)
theorem om_1815 : (.methodLink RX1 3 objectInit : Cond) ∈ Om := ot_75 _ (List.mem_of_getElem? (i := 15) rfl)
theorem om_1816 : (.fieldLink RX1 9 "HeapWorks$FactBook" "types" "LHeapWorks$Types;" : Cond) ∈ Om := ot_75 _ (List.mem_of_getElem? (i := 16) rfl)
theorem om_1817 : (.fieldLink RX1 15 "HeapWorks$FactBook" "row" "[J" : Cond) ∈ Om := ot_75 _ (List.mem_of_getElem? (i := 17) rfl)
theorem om_1818 : (.fieldLink RX1 19 "HeapWorks$FactBook" "column" "[J" : Cond) ∈ Om := ot_75 _ (List.mem_of_getElem? (i := 18) rfl)
theorem om_1819 : (.fieldLink RX1 22 "HeapWorks$FactBook" "diagonal" "[J" : Cond) ∈ Om := ot_75 _ (List.mem_of_getElem? (i := 19) rfl)
theorem om_1820 : (.fieldLink RX1 27 "HeapWorks$FactBook" "classBits" "[J" : Cond) ∈ Om := ot_75 _ (List.mem_of_getElem? (i := 20) rfl)
theorem om_1821 : (.fieldLink RX1 30 "HeapWorks$FactBook" "chosen" "[I" : Cond) ∈ Om := ot_75 _ (List.mem_of_getElem? (i := 21) rfl)
theorem om_1822 : (.code yX1_init cX1_init 2 none : Cond) ∈ Om := ot_75 _ (List.mem_of_getElem? (i := 22) rfl)
theorem om_1823 : (.methodLink RX11 83 yX1_init : Cond) ∈ Om := ot_75 _ (List.mem_of_getElem? (i := 23) rfl)
theorem om_1824 : (.instanceMethod yX1_init : Cond) ∈ Om := ot_76 _ (List.mem_of_getElem? (i := 0) rfl)
theorem om_1825 : (.fieldLink RX11 84 "HeapWorks" "factBook" "LHeapWorks$FactBook;" : Cond) ∈ Om := ot_76 _ (List.mem_of_getElem? (i := 1) rfl)
theorem om_1826 : (.classLink RX11 88 RX0 : Cond) ∈ Om := ot_76 _ (List.mem_of_getElem? (i := 2) rfl)
theorem om_1827 : (.instantiable RX0 15 : Cond) ∈ Om := ot_76 _ (List.mem_of_getElem? (i := 3) rfl)
theorem om_1828 : (.methodLink RX0 5 objectInit : Cond) ∈ Om := ot_76 _ (List.mem_of_getElem? (i := 4) rfl)
theorem om_1829 : (.fieldLink RX0 11 "HeapWorks$Archive" "types" "LHeapWorks$Types;" : Cond) ∈ Om := ot_76 _ (List.mem_of_getElem? (i := 5) rfl)
theorem om_1830 : (.fieldLink RX0 19 "HeapWorks$Archive" "buffer" "[I" : Cond) ∈ Om := ot_76 _ (List.mem_of_getElem? (i := 6) rfl)
theorem om_1831 : (.fieldLink RX0 23 "HeapWorks$Archive" "log" "[I" : Cond) ∈ Om := ot_76 _ (List.mem_of_getElem? (i := 7) rfl)
theorem om_1832 : (.fieldLink RX0 26 "HeapWorks$Archive" "source" "[I" : Cond) ∈ Om := ot_76 _ (List.mem_of_getElem? (i := 8) rfl)
theorem om_1833 : (.fieldLink RX0 29 "HeapWorks$Archive" "objectPlace" "[I" : Cond) ∈ Om := ot_76 _ (List.mem_of_getElem? (i := 9) rfl)
theorem om_1834 : (.fieldLink RX0 32 "HeapWorks$Archive" "slotPlace" "[I" : Cond) ∈ Om := ot_76 _ (List.mem_of_getElem? (i := 10) rfl)
theorem om_1835 : (.code yX0_init cX0_init 2 none : Cond) ∈ Om := ot_76 _ (List.mem_of_getElem? (i := 11) rfl)
theorem om_1836 : (.methodLink RX11 90 yX0_init : Cond) ∈ Om := ot_76 _ (List.mem_of_getElem? (i := 12) rfl)
theorem om_1837 : (.instanceMethod yX0_init : Cond) ∈ Om := ot_76 _ (List.mem_of_getElem? (i := 13) rfl)
theorem om_1838 : (.fieldLink RX11 91 "HeapWorks" "archive" "LHeapWorks$Archive;" : Cond) ∈ Om := ot_76 _ (List.mem_of_getElem? (i := 14) rfl)
theorem om_1839 : (.fieldLink RX11 95 "HeapWorks" "grownThings" "[I" : Cond) ∈ Om := ot_76 _ (List.mem_of_getElem? (i := 15) rfl)
theorem om_1840 : (.fieldLink RX11 98 "HeapWorks" "faultPlace" "I" : Cond) ∈ Om := ot_76 _ (List.mem_of_getElem? (i := 16) rfl)
theorem om_1841 : (.methodLink RX12 1 objectInit : Cond) ∈ Om := ot_76 _ (List.mem_of_getElem? (i := 17) rfl)
theorem om_1842 : (.arrayClass .byte : Cond) ∈ Om := ot_76 _ (List.mem_of_getElem? (i := 18) rfl)
theorem om_1843 : (.fieldLink RX12 7 "HeapWorksModel" "tape" "[B" : Cond) ∈ Om := ot_76 _ (List.mem_of_getElem? (i := 19) rfl)
theorem om_1844 : (.fieldLink RX12 13 "HeapWorksModel" "ready" "[B" : Cond) ∈ Om := ot_76 _ (List.mem_of_getElem? (i := 20) rfl)
theorem om_1845 : (.constantLong RX12 16 (6384748) : Cond) ∈ Om := ot_76 _ (List.mem_of_getElem? (i := 21) rfl)
theorem om_1846 : (.constantLong RX12 18 (7305070) : Cond) ∈ Om := ot_76 _ (List.mem_of_getElem? (i := 22) rfl)
theorem om_1847 : (.constantLong RX12 20 (127991794263923) : Cond) ∈ Om := ot_76 _ (List.mem_of_getElem? (i := 23) rfl)
theorem om_1848 : (.constantLong RX12 22 (512852587109) : Cond) ∈ Om := ot_77 _ (List.mem_of_getElem? (i := 0) rfl)
theorem om_1849 : (.constantLong RX12 24 (6776180) : Cond) ∈ Om := ot_77 _ (List.mem_of_getElem? (i := 1) rfl)
theorem om_1850 : (.constantLong RX12 26 (6385252) : Cond) ∈ Om := ot_77 _ (List.mem_of_getElem? (i := 2) rfl)
theorem om_1851 : (.constantLong RX12 28 (28530) : Cond) ∈ Om := ot_77 _ (List.mem_of_getElem? (i := 3) rfl)
theorem om_1852 : (.constantLong RX12 30 (7237492) : Cond) ∈ Om := ot_77 _ (List.mem_of_getElem? (i := 4) rfl)
theorem om_1853 : (.constantLong RX12 32 (1853189228) : Cond) ∈ Om := ot_77 _ (List.mem_of_getElem? (i := 5) rfl)
theorem om_1854 : (.constantLong RX12 34 (1953658213) : Cond) ∈ Om := ot_77 _ (List.mem_of_getElem? (i := 6) rfl)
theorem om_1855 : (.constantLong RX12 36 (439721161573) : Cond) ∈ Om := ot_77 _ (List.mem_of_getElem? (i := 7) rfl)
theorem om_1856 : (.constantLong RX12 38 (26995) : Cond) ∈ Om := ot_77 _ (List.mem_of_getElem? (i := 8) rfl)
theorem om_1857 : (.constantLong RX12 40 (26990) : Cond) ∈ Om := ot_77 _ (List.mem_of_getElem? (i := 9) rfl)
theorem om_1858 : (.constantLong RX12 42 (427071729268) : Cond) ∈ Om := ot_77 _ (List.mem_of_getElem? (i := 10) rfl)
theorem om_1859 : (.constantLong RX12 44 (7566701) : Cond) ∈ Om := ot_77 _ (List.mem_of_getElem? (i := 11) rfl)
theorem om_1860 : (.constantLong RX12 46 (1836020596) : Cond) ∈ Om := ot_77 _ (List.mem_of_getElem? (i := 12) rfl)
theorem om_1861 : (.constantLong RX12 48 (465557353332) : Cond) ∈ Om := ot_77 _ (List.mem_of_getElem? (i := 13) rfl)
theorem om_1862 : (.constantLong RX12 50 (1936682341) : Cond) ∈ Om := ot_77 _ (List.mem_of_getElem? (i := 14) rfl)
theorem om_1863 : (.constantLong RX12 52 (1700881256) : Cond) ∈ Om := ot_77 _ (List.mem_of_getElem? (i := 15) rfl)
theorem om_1864 : (.constantLong RX12 54 (1936292453) : Cond) ∈ Om := ot_77 _ (List.mem_of_getElem? (i := 16) rfl)
theorem om_1865 : (.constantLong RX12 56 (1801810036) : Cond) ∈ Om := ot_77 _ (List.mem_of_getElem? (i := 17) rfl)
theorem om_1866 : (.constantLong RX12 58 (431198598248) : Cond) ∈ Om := ot_77 _ (List.mem_of_getElem? (i := 18) rfl)
theorem om_1867 : (.constantLong RX12 60 (119182899770472) : Cond) ∈ Om := ot_77 _ (List.mem_of_getElem? (i := 19) rfl)
theorem om_1868 : (.constantLong RX12 62 (427020088179) : Cond) ∈ Om := ot_77 _ (List.mem_of_getElem? (i := 20) rfl)
theorem om_1869 : (.constantLong RX12 64 (495740482675) : Cond) ∈ Om := ot_77 _ (List.mem_of_getElem? (i := 21) rfl)
theorem om_1870 : (.constantLong RX12 66 (1751477348) : Cond) ∈ Om := ot_77 _ (List.mem_of_getElem? (i := 22) rfl)
theorem om_1871 : (.constantLong RX12 68 (1718775661) : Cond) ∈ Om := ot_77 _ (List.mem_of_getElem? (i := 23) rfl)
theorem om_1872 : (.constantLong RX12 70 (26996) : Cond) ∈ Om := ot_78 _ (List.mem_of_getElem? (i := 0) rfl)
theorem om_1873 : (.constantLong RX12 72 (499967946343) : Cond) ∈ Om := ot_78 _ (List.mem_of_getElem? (i := 1) rfl)
theorem om_1874 : (.fieldLink RX12 74 "HeapWorksModel" "keys" "[J" : Cond) ∈ Om := ot_78 _ (List.mem_of_getElem? (i := 2) rfl)
theorem om_1875 : (.fieldLink RX12 78 "HeapWorksModel" "className" "[J" : Cond) ∈ Om := ot_78 _ (List.mem_of_getElem? (i := 3) rfl)
theorem om_1876 : (.fieldLink RX12 81 "HeapWorksModel" "fieldName" "[J" : Cond) ∈ Om := ot_78 _ (List.mem_of_getElem? (i := 4) rfl)
theorem om_1877 : (.fieldLink RX12 84 "HeapWorksModel" "statics" "[J" : Cond) ∈ Om := ot_78 _ (List.mem_of_getElem? (i := 5) rfl)
theorem om_1878 : (.fieldLink RX12 87 "HeapWorksModel" "loader" "[I" : Cond) ∈ Om := ot_78 _ (List.mem_of_getElem? (i := 6) rfl)
theorem om_1879 : (.fieldLink RX12 91 "HeapWorksModel" "parent" "[I" : Cond) ∈ Om := ot_78 _ (List.mem_of_getElem? (i := 7) rfl)
theorem om_1880 : (.fieldLink RX12 94 "HeapWorksModel" "own" "[I" : Cond) ∈ Om := ot_78 _ (List.mem_of_getElem? (i := 8) rfl)
theorem om_1881 : (.fieldLink RX12 97 "HeapWorksModel" "slotsOf" "[I" : Cond) ∈ Om := ot_78 _ (List.mem_of_getElem? (i := 9) rfl)
theorem om_1882 : (.fieldLink RX12 100 "HeapWorksModel" "endOf" "[I" : Cond) ∈ Om := ot_78 _ (List.mem_of_getElem? (i := 10) rfl)
theorem om_1883 : (.fieldLink RX12 103 "HeapWorksModel" "fieldKind" "[I" : Cond) ∈ Om := ot_78 _ (List.mem_of_getElem? (i := 11) rfl)
theorem om_1884 : (.fieldLink RX12 106 "HeapWorksModel" "fieldLink" "[I" : Cond) ∈ Om := ot_78 _ (List.mem_of_getElem? (i := 12) rfl)
theorem om_1885 : (.fieldLink RX12 109 "HeapWorksModel" "fieldSlot" "[I" : Cond) ∈ Om := ot_78 _ (List.mem_of_getElem? (i := 13) rfl)
theorem om_1886 : (.fieldLink RX12 112 "HeapWorksModel" "fieldAt" "[I" : Cond) ∈ Om := ot_78 _ (List.mem_of_getElem? (i := 14) rfl)
theorem om_1887 : (.fieldLink RX12 115 "HeapWorksModel" "used" "[Z" : Cond) ∈ Om := ot_78 _ (List.mem_of_getElem? (i := 15) rfl)
theorem om_1888 : (.fieldLink RX12 119 "HeapWorksModel" "isStatic" "[Z" : Cond) ∈ Om := ot_78 _ (List.mem_of_getElem? (i := 16) rfl)
theorem om_1889 : (.fieldLink RX12 122 "HeapWorksModel" "apart" "[Z" : Cond) ∈ Om := ot_78 _ (List.mem_of_getElem? (i := 17) rfl)
theorem om_1890 : (.fieldLink RX12 125 "HeapWorksModel" "type" "[I" : Cond) ∈ Om := ot_78 _ (List.mem_of_getElem? (i := 18) rfl)
theorem om_1891 : (.fieldLink RX12 128 "HeapWorksModel" "length" "[I" : Cond) ∈ Om := ot_78 _ (List.mem_of_getElem? (i := 19) rfl)
theorem om_1892 : (.fieldLink RX12 131 "HeapWorksModel" "from" "[I" : Cond) ∈ Om := ot_78 _ (List.mem_of_getElem? (i := 20) rfl)
theorem om_1893 : (.fieldLink RX12 134 "HeapWorksModel" "there" "[Z" : Cond) ∈ Om := ot_78 _ (List.mem_of_getElem? (i := 21) rfl)
theorem om_1894 : (.constant RX12 137 (38500) : Cond) ∈ Om := ot_78 _ (List.mem_of_getElem? (i := 22) rfl)
theorem om_1895 : (.fieldLink RX12 138 "HeapWorksModel" "values" "[J" : Cond) ∈ Om := ot_78 _ (List.mem_of_getElem? (i := 23) rfl)
theorem om_1896 : (.fieldLink RX12 141 "HeapWorksModel" "told" "[I" : Cond) ∈ Om := ot_79 _ (List.mem_of_getElem? (i := 0) rfl)
theorem om_1897 : (.fieldLink RX12 144 "HeapWorksModel" "undoObject" "[I" : Cond) ∈ Om := ot_79 _ (List.mem_of_getElem? (i := 1) rfl)
theorem om_1898 : (.fieldLink RX12 147 "HeapWorksModel" "undoSlot" "[I" : Cond) ∈ Om := ot_79 _ (List.mem_of_getElem? (i := 2) rfl)
theorem om_1899 : (.fieldLink RX12 150 "HeapWorksModel" "undoWrite" "[I" : Cond) ∈ Om := ot_79 _ (List.mem_of_getElem? (i := 3) rfl)
theorem om_1900 : (.fieldLink RX12 153 "HeapWorksModel" "undoValue" "[J" : Cond) ∈ Om := ot_79 _ (List.mem_of_getElem? (i := 4) rfl)
theorem om_1901 : (.fieldLink RX12 156 "HeapWorksModel" "watchField" "[I" : Cond) ∈ Om := ot_79 _ (List.mem_of_getElem? (i := 5) rfl)
theorem om_1902 : (.fieldLink RX12 159 "HeapWorksModel" "watchWay" "[I" : Cond) ∈ Om := ot_79 _ (List.mem_of_getElem? (i := 6) rfl)
theorem om_1903 : (.fieldLink RX12 162 "HeapWorksModel" "rowsOf" "[I" : Cond) ∈ Om := ot_79 _ (List.mem_of_getElem? (i := 7) rfl)
theorem om_1904 : (.fieldLink RX12 165 "HeapWorksModel" "rowWrite" "[I" : Cond) ∈ Om := ot_79 _ (List.mem_of_getElem? (i := 8) rfl)
theorem om_1905 : (.fieldLink RX12 168 "HeapWorksModel" "rowObject" "[I" : Cond) ∈ Om := ot_79 _ (List.mem_of_getElem? (i := 9) rfl)
theorem om_1906 : (.fieldLink RX12 171 "HeapWorksModel" "rowBefore" "[J" : Cond) ∈ Om := ot_79 _ (List.mem_of_getElem? (i := 10) rfl)
theorem om_1907 : (.fieldLink RX12 174 "HeapWorksModel" "rowBehind" "[J" : Cond) ∈ Om := ot_79 _ (List.mem_of_getElem? (i := 11) rfl)
theorem om_1908 : (.fieldLink RX12 177 "HeapWorksModel" "walked" "[I" : Cond) ∈ Om := ot_79 _ (List.mem_of_getElem? (i := 12) rfl)
theorem om_1909 : (.fieldLink RX12 180 "HeapWorksModel" "placeIn" "[I" : Cond) ∈ Om := ot_79 _ (List.mem_of_getElem? (i := 13) rfl)
theorem om_1910 : (.fieldLink RX12 183 "HeapWorksModel" "things" "[I" : Cond) ∈ Om := ot_79 _ (List.mem_of_getElem? (i := 14) rfl)
theorem om_1911 : (.fieldLink RX12 186 "HeapWorksModel" "object" "[I" : Cond) ∈ Om := ot_79 _ (List.mem_of_getElem? (i := 15) rfl)
theorem om_1912 : (.fieldLink RX12 189 "HeapWorksModel" "typeOf" "[I" : Cond) ∈ Om := ot_79 _ (List.mem_of_getElem? (i := 16) rfl)
theorem om_1913 : (.fieldLink RX12 192 "HeapWorksModel" "lengthOf" "[I" : Cond) ∈ Om := ot_79 _ (List.mem_of_getElem? (i := 17) rfl)
theorem om_1914 : (.fieldLink RX12 195 "HeapWorksModel" "slotFrom" "[I" : Cond) ∈ Om := ot_79 _ (List.mem_of_getElem? (i := 18) rfl)
theorem om_1915 : (.fieldLink RX12 198 "HeapWorksModel" "depthOf" "[I" : Cond) ∈ Om := ot_79 _ (List.mem_of_getElem? (i := 19) rfl)
theorem om_1916 : (.fieldLink RX12 201 "HeapWorksModel" "wayThing" "[I" : Cond) ∈ Om := ot_79 _ (List.mem_of_getElem? (i := 20) rfl)
theorem om_1917 : (.fieldLink RX12 204 "HeapWorksModel" "waySlot" "[I" : Cond) ∈ Om := ot_79 _ (List.mem_of_getElem? (i := 21) rfl)
theorem om_1918 : (.fieldLink RX12 207 "HeapWorksModel" "dominator" "[I" : Cond) ∈ Om := ot_79 _ (List.mem_of_getElem? (i := 22) rfl)
theorem om_1919 : (.fieldLink RX12 210 "HeapWorksModel" "kept" "[I" : Cond) ∈ Om := ot_79 _ (List.mem_of_getElem? (i := 23) rfl)
theorem om_1920 : (.fieldLink RX12 213 "HeapWorksModel" "dominated" "[I" : Cond) ∈ Om := ot_80 _ (List.mem_of_getElem? (i := 0) rfl)
theorem om_1921 : (.fieldLink RX12 216 "HeapWorksModel" "ring" "[I" : Cond) ∈ Om := ot_80 _ (List.mem_of_getElem? (i := 1) rfl)
theorem om_1922 : (.fieldLink RX12 219 "HeapWorksModel" "group" "[I" : Cond) ∈ Om := ot_80 _ (List.mem_of_getElem? (i := 2) rfl)
theorem om_1923 : (.fieldLink RX12 222 "HeapWorksModel" "lost" "[I" : Cond) ∈ Om := ot_80 _ (List.mem_of_getElem? (i := 3) rfl)
theorem om_1924 : (.fieldLink RX12 225 "HeapWorksModel" "lostMany" "[I" : Cond) ∈ Om := ot_80 _ (List.mem_of_getElem? (i := 4) rfl)
theorem om_1925 : (.fieldLink RX12 228 "HeapWorksModel" "ringMany" "[I" : Cond) ∈ Om := ot_80 _ (List.mem_of_getElem? (i := 5) rfl)
theorem om_1926 : (.fieldLink RX12 231 "HeapWorksModel" "groupMany" "[I" : Cond) ∈ Om := ot_80 _ (List.mem_of_getElem? (i := 6) rfl)
theorem om_1927 : (.fieldLink RX12 234 "HeapWorksModel" "rootMany" "[I" : Cond) ∈ Om := ot_80 _ (List.mem_of_getElem? (i := 7) rfl)
theorem om_1928 : (.fieldLink RX12 237 "HeapWorksModel" "rootNumber" "[I" : Cond) ∈ Om := ot_80 _ (List.mem_of_getElem? (i := 8) rfl)
theorem om_1929 : (.fieldLink RX12 240 "HeapWorksModel" "rootThing" "[I" : Cond) ∈ Om := ot_80 _ (List.mem_of_getElem? (i := 9) rfl)
theorem om_1930 : (.fieldLink RX12 243 "HeapWorksModel" "slotValue" "[J" : Cond) ∈ Om := ot_80 _ (List.mem_of_getElem? (i := 10) rfl)
theorem om_1931 : (.fieldLink RX12 246 "HeapWorksModel" "chosen" "[Z" : Cond) ∈ Om := ot_80 _ (List.mem_of_getElem? (i := 11) rfl)
theorem om_1932 : (.fieldLink RX12 249 "HeapWorksModel" "met" "[Z" : Cond) ∈ Om := ot_80 _ (List.mem_of_getElem? (i := 12) rfl)
theorem om_1933 : (.constant RX12 252 (160000) : Cond) ∈ Om := ot_80 _ (List.mem_of_getElem? (i := 13) rfl)
theorem om_1934 : (.fieldLink RX12 253 "HeapWorksModel" "reaches" "[Z" : Cond) ∈ Om := ot_80 _ (List.mem_of_getElem? (i := 14) rfl)
theorem om_1935 : (.fieldLink RX12 256 "HeapWorksModel" "queue" "[I" : Cond) ∈ Om := ot_80 _ (List.mem_of_getElem? (i := 15) rfl)
theorem om_1936 : (.fieldLink RX12 259 "HeapWorksModel" "grown" "[I" : Cond) ∈ Om := ot_80 _ (List.mem_of_getElem? (i := 16) rfl)
theorem om_1937 : (.fieldLink RX12 262 "HeapWorksModel" "mate" "[I" : Cond) ∈ Om := ot_80 _ (List.mem_of_getElem? (i := 17) rfl)
theorem om_1938 : (.fieldLink RX12 265 "HeapWorksModel" "mateBack" "[I" : Cond) ∈ Om := ot_80 _ (List.mem_of_getElem? (i := 18) rfl)
theorem om_1939 : (.fieldLink RX12 268 "HeapWorksModel" "faultAt" "I" : Cond) ∈ Om := ot_80 _ (List.mem_of_getElem? (i := 19) rfl)
theorem om_1940 : (.fieldLink RX12 272 "HeapWorksModel" "nodeKind" "[I" : Cond) ∈ Om := ot_80 _ (List.mem_of_getElem? (i := 20) rfl)
theorem om_1941 : (.fieldLink RX12 275 "HeapWorksModel" "nodeA" "[I" : Cond) ∈ Om := ot_80 _ (List.mem_of_getElem? (i := 21) rfl)
theorem om_1942 : (.fieldLink RX12 278 "HeapWorksModel" "nodeB" "[I" : Cond) ∈ Om := ot_80 _ (List.mem_of_getElem? (i := 22) rfl)
theorem om_1943 : (.fieldLink RX12 281 "HeapWorksModel" "nodeC" "[I" : Cond) ∈ Om := ot_80 _ (List.mem_of_getElem? (i := 23) rfl)
theorem om_1944 : (.fieldLink RX12 284 "HeapWorksModel" "nodeWord" "[J" : Cond) ∈ Om := ot_81 _ (List.mem_of_getElem? (i := 0) rfl)
theorem om_1945 : (.fieldLink RX12 287 "HeapWorksModel" "knownName" "[J" : Cond) ∈ Om := ot_81 _ (List.mem_of_getElem? (i := 1) rfl)
theorem om_1946 : (.fieldLink RX12 290 "HeapWorksModel" "variable" "[I" : Cond) ∈ Om := ot_81 _ (List.mem_of_getElem? (i := 2) rfl)
theorem om_1947 : (.constant RX12 293 (52800) : Cond) ∈ Om := ot_81 _ (List.mem_of_getElem? (i := 3) rfl)
theorem om_1948 : (.fieldLink RX12 294 "HeapWorksModel" "given" "[I" : Cond) ∈ Om := ot_81 _ (List.mem_of_getElem? (i := 4) rfl)
theorem om_1949 : (.fieldLink RX12 297 "HeapWorksModel" "givenMany" "[I" : Cond) ∈ Om := ot_81 _ (List.mem_of_getElem? (i := 5) rfl)
theorem om_1950 : (.fieldLink RX12 300 "HeapWorksModel" "answerThing" "[I" : Cond) ∈ Om := ot_81 _ (List.mem_of_getElem? (i := 6) rfl)
theorem om_1951 : (.fieldLink RX12 303 "HeapWorksModel" "answerSort" "[I" : Cond) ∈ Om := ot_81 _ (List.mem_of_getElem? (i := 7) rfl)
theorem om_1952 : (.fieldLink RX12 306 "HeapWorksModel" "answerValue" "[J" : Cond) ∈ Om := ot_81 _ (List.mem_of_getElem? (i := 8) rfl)
theorem om_1953 : (.fieldLink RX12 309 "HeapWorksModel" "promiseNode" "[I" : Cond) ∈ Om := ot_81 _ (List.mem_of_getElem? (i := 9) rfl)
theorem om_1954 : (.fieldLink RX12 312 "HeapWorksModel" "brokenBy" "[I" : Cond) ∈ Om := ot_81 _ (List.mem_of_getElem? (i := 10) rfl)
theorem om_1955 : (.fieldLink RX12 315 "HeapWorksModel" "relationName" "[J" : Cond) ∈ Om := ot_81 _ (List.mem_of_getElem? (i := 11) rfl)
theorem om_1956 : (.fieldLink RX12 318 "HeapWorksModel" "ruleVariable" "[J" : Cond) ∈ Om := ot_81 _ (List.mem_of_getElem? (i := 12) rfl)
theorem om_1957 : (.fieldLink RX12 321 "HeapWorksModel" "atomName" "[J" : Cond) ∈ Om := ot_81 _ (List.mem_of_getElem? (i := 13) rfl)
theorem om_1958 : (.fieldLink RX12 324 "HeapWorksModel" "arity" "[I" : Cond) ∈ Om := ot_81 _ (List.mem_of_getElem? (i := 14) rfl)
theorem om_1959 : (.fieldLink RX12 327 "HeapWorksModel" "headOf" "[I" : Cond) ∈ Om := ot_81 _ (List.mem_of_getElem? (i := 15) rfl)
theorem om_1960 : (.fieldLink RX12 330 "HeapWorksModel" "headA" "[I" : Cond) ∈ Om := ot_81 _ (List.mem_of_getElem? (i := 16) rfl)
theorem om_1961 : (.fieldLink RX12 333 "HeapWorksModel" "headB" "[I" : Cond) ∈ Om := ot_81 _ (List.mem_of_getElem? (i := 17) rfl)
theorem om_1962 : (.fieldLink RX12 336 "HeapWorksModel" "atomsOf" "[I" : Cond) ∈ Om := ot_81 _ (List.mem_of_getElem? (i := 18) rfl)
theorem om_1963 : (.fieldLink RX12 339 "HeapWorksModel" "atomKind" "[I" : Cond) ∈ Om := ot_81 _ (List.mem_of_getElem? (i := 19) rfl)
theorem om_1964 : (.fieldLink RX12 342 "HeapWorksModel" "atomRelation" "[I" : Cond) ∈ Om := ot_81 _ (List.mem_of_getElem? (i := 20) rfl)
theorem om_1965 : (.fieldLink RX12 345 "HeapWorksModel" "atomA" "[I" : Cond) ∈ Om := ot_81 _ (List.mem_of_getElem? (i := 21) rfl)
theorem om_1966 : (.fieldLink RX12 348 "HeapWorksModel" "atomB" "[I" : Cond) ∈ Om := ot_81 _ (List.mem_of_getElem? (i := 22) rfl)
theorem om_1967 : (.fieldLink RX12 351 "HeapWorksModel" "variablesOf" "[I" : Cond) ∈ Om := ot_81 _ (List.mem_of_getElem? (i := 23) rfl)
theorem om_1968 : (.fieldLink RX12 354 "HeapWorksModel" "binding" "[I" : Cond) ∈ Om := ot_82 _ (List.mem_of_getElem? (i := 0) rfl)
theorem om_1969 : (.fieldLink RX12 357 "HeapWorksModel" "factOne" "[Z" : Cond) ∈ Om := ot_82 _ (List.mem_of_getElem? (i := 1) rfl)
theorem om_1970 : (.fieldLink RX12 360 "HeapWorksModel" "factTwo" "[Z" : Cond) ∈ Om := ot_82 _ (List.mem_of_getElem? (i := 2) rfl)
theorem om_1971 : (.fieldLink RX12 363 "HeapWorksModel" "bound" "[Z" : Cond) ∈ Om := ot_82 _ (List.mem_of_getElem? (i := 3) rfl)
theorem om_1972 : (.fieldLink RX12 366 "HeapWorksModel" "inHead" "[Z" : Cond) ∈ Om := ot_82 _ (List.mem_of_getElem? (i := 4) rfl)
theorem om_1973 : (.fieldLink RX12 369 "HeapWorksModel" "row0" "[B" : Cond) ∈ Om := ot_82 _ (List.mem_of_getElem? (i := 5) rfl)
theorem om_1974 : (.fieldLink RX12 372 "HeapWorksModel" "log" "[B" : Cond) ∈ Om := ot_82 _ (List.mem_of_getElem? (i := 6) rfl)
theorem om_1975 : (.fieldLink RX12 375 "HeapWorksModel" "thingAt" "[I" : Cond) ∈ Om := ot_82 _ (List.mem_of_getElem? (i := 7) rfl)
theorem om_1976 : (.fieldLink RX12 378 "HeapWorksModel" "linkAt" "[I" : Cond) ∈ Om := ot_82 _ (List.mem_of_getElem? (i := 8) rfl)
theorem om_1977 : (.fieldLink RX12 381 "HeapWorksModel" "recordAt" "[I" : Cond) ∈ Om := ot_82 _ (List.mem_of_getElem? (i := 9) rfl)
theorem om_1978 : (.code yX11_type cX11_type 5 (some .int) : Cond) ∈ Om := ot_82 _ (List.mem_of_getElem? (i := 10) rfl)
theorem om_1979 : (.methodLink RL 7 yX11_type : Cond) ∈ Om := ot_82 _ (List.mem_of_getElem? (i := 11) rfl)
theorem om_1980 : (.instanceMethod yX11_type : Cond) ∈ Om := ot_82 _ (List.mem_of_getElem? (i := 12) rfl)
theorem om_1981 : (.selects RX11 yX11_type yX11_type : Cond) ∈ Om := ot_82 _ (List.mem_of_getElem? (i := 13) rfl)
theorem om_1982 : (.classLink RL 13 "java/lang/IndexOutOfBoundsException" : Cond) ∈ Om := ot_82 _ (List.mem_of_getElem? (i := 14) rfl)
theorem om_1983 : (.classLink RL 15 "java/lang/IllegalArgumentException" : Cond) ∈ Om := ot_82 _ (List.mem_of_getElem? (i := 15) rfl)
theorem om_1984 : (.classLink RL 17 "java/lang/IllegalStateException" : Cond) ∈ Om := ot_82 _ (List.mem_of_getElem? (i := 16) rfl)
theorem om_1985 : (.code yX11_field cX11_field 8 (some .int) : Cond) ∈ Om := ot_82 _ (List.mem_of_getElem? (i := 17) rfl)
theorem om_1986 : (.methodLink RL 19 yX11_field : Cond) ∈ Om := ot_82 _ (List.mem_of_getElem? (i := 18) rfl)
theorem om_1987 : (.instanceMethod yX11_field : Cond) ∈ Om := ot_82 _ (List.mem_of_getElem? (i := 19) rfl)
theorem om_1988 : (.selects RX11 yX11_field yX11_field : Cond) ∈ Om := ot_82 _ (List.mem_of_getElem? (i := 20) rfl)
theorem om_1989 : (.code yX11_make cX11_make 4 (some .int) : Cond) ∈ Om := ot_82 _ (List.mem_of_getElem? (i := 21) rfl)
theorem om_1990 : (.methodLink RL 23 yX11_make : Cond) ∈ Om := ot_82 _ (List.mem_of_getElem? (i := 22) rfl)
theorem om_1991 : (.instanceMethod yX11_make : Cond) ∈ Om := ot_82 _ (List.mem_of_getElem? (i := 23) rfl)
theorem om_1992 : (.selects RX11 yX11_make yX11_make : Cond) ∈ Om := ot_83 _ (List.mem_of_getElem? (i := 0) rfl)
theorem om_1993 : (.code yX11_root cX11_root 4 none : Cond) ∈ Om := ot_83 _ (List.mem_of_getElem? (i := 1) rfl)
theorem om_1994 : (.methodLink RL 26 yX11_root : Cond) ∈ Om := ot_83 _ (List.mem_of_getElem? (i := 2) rfl)
theorem om_1995 : (.instanceMethod yX11_root : Cond) ∈ Om := ot_83 _ (List.mem_of_getElem? (i := 3) rfl)
theorem om_1996 : (.selects RX11 yX11_root yX11_root : Cond) ∈ Om := ot_83 _ (List.mem_of_getElem? (i := 4) rfl)
theorem om_1997 : (.classLink RL 30 "java/util/NoSuchElementException" : Cond) ∈ Om := ot_83 _ (List.mem_of_getElem? (i := 5) rfl)
theorem om_1998 : (.code yX11_set cX11_set 7 (some .int) : Cond) ∈ Om := ot_83 _ (List.mem_of_getElem? (i := 6) rfl)
theorem om_1999 : (.methodLink RL 32 yX11_set : Cond) ∈ Om := ot_83 _ (List.mem_of_getElem? (i := 7) rfl)
theorem om_2000 : (.instanceMethod yX11_set : Cond) ∈ Om := ot_83 _ (List.mem_of_getElem? (i := 8) rfl)
theorem om_2001 : (.selects RX11 yX11_set yX11_set : Cond) ∈ Om := ot_83 _ (List.mem_of_getElem? (i := 9) rfl)
theorem om_2002 : (.code yX11_setStatic cX11_setStatic 8 (some .int) : Cond) ∈ Om := ot_83 _ (List.mem_of_getElem? (i := 10) rfl)
theorem om_2003 : (.methodLink RL 36 yX11_setStatic : Cond) ∈ Om := ot_83 _ (List.mem_of_getElem? (i := 11) rfl)
theorem om_2004 : (.instanceMethod yX11_setStatic : Cond) ∈ Om := ot_83 _ (List.mem_of_getElem? (i := 12) rfl)
theorem om_2005 : (.selects RX11 yX11_setStatic yX11_setStatic : Cond) ∈ Om := ot_83 _ (List.mem_of_getElem? (i := 13) rfl)
theorem om_2006 : (.code yX11_get cX11_get 3 (some .long) : Cond) ∈ Om := ot_83 _ (List.mem_of_getElem? (i := 14) rfl)
theorem om_2007 : (.methodLink RL 39 yX11_get : Cond) ∈ Om := ot_83 _ (List.mem_of_getElem? (i := 15) rfl)
theorem om_2008 : (.instanceMethod yX11_get : Cond) ∈ Om := ot_83 _ (List.mem_of_getElem? (i := 16) rfl)
theorem om_2009 : (.selects RX11 yX11_get yX11_get : Cond) ∈ Om := ot_83 _ (List.mem_of_getElem? (i := 17) rfl)
theorem om_2010 : (.code yX11_getStatic cX11_getStatic 4 (some .long) : Cond) ∈ Om := ot_83 _ (List.mem_of_getElem? (i := 18) rfl)
theorem om_2011 : (.methodLink RL 43 yX11_getStatic : Cond) ∈ Om := ot_83 _ (List.mem_of_getElem? (i := 19) rfl)
theorem om_2012 : (.instanceMethod yX11_getStatic : Cond) ∈ Om := ot_83 _ (List.mem_of_getElem? (i := 20) rfl)
theorem om_2013 : (.selects RX11 yX11_getStatic yX11_getStatic : Cond) ∈ Om := ot_83 _ (List.mem_of_getElem? (i := 21) rfl)
theorem om_2014 : (.code yX11_swap cX11_swap 4 (some .int) : Cond) ∈ Om := ot_83 _ (List.mem_of_getElem? (i := 22) rfl)
theorem om_2015 : (.methodLink RL 46 yX11_swap : Cond) ∈ Om := ot_83 _ (List.mem_of_getElem? (i := 23) rfl)
theorem om_2016 : (.instanceMethod yX11_swap : Cond) ∈ Om := ot_84 _ (List.mem_of_getElem? (i := 0) rfl)
theorem om_2017 : (.selects RX11 yX11_swap yX11_swap : Cond) ∈ Om := ot_84 _ (List.mem_of_getElem? (i := 1) rfl)
theorem om_2018 : (.code yX11_copy cX11_copy 4 (some .int) : Cond) ∈ Om := ot_84 _ (List.mem_of_getElem? (i := 2) rfl)
theorem om_2019 : (.methodLink RL 49 yX11_copy : Cond) ∈ Om := ot_84 _ (List.mem_of_getElem? (i := 3) rfl)
theorem om_2020 : (.instanceMethod yX11_copy : Cond) ∈ Om := ot_84 _ (List.mem_of_getElem? (i := 4) rfl)
theorem om_2021 : (.selects RX11 yX11_copy yX11_copy : Cond) ∈ Om := ot_84 _ (List.mem_of_getElem? (i := 5) rfl)
theorem om_2022 : (.code yX11_watch cX11_watch 4 (some .int) : Cond) ∈ Om := ot_84 _ (List.mem_of_getElem? (i := 6) rfl)
theorem om_2023 : (.methodLink RL 52 yX11_watch : Cond) ∈ Om := ot_84 _ (List.mem_of_getElem? (i := 7) rfl)
theorem om_2024 : (.instanceMethod yX11_watch : Cond) ∈ Om := ot_84 _ (List.mem_of_getElem? (i := 8) rfl)
theorem om_2025 : (.selects RX11 yX11_watch yX11_watch : Cond) ∈ Om := ot_84 _ (List.mem_of_getElem? (i := 9) rfl)
theorem om_2026 : (.code yX11_row cX11_row 4 (some .long) : Cond) ∈ Om := ot_84 _ (List.mem_of_getElem? (i := 10) rfl)
theorem om_2027 : (.methodLink RL 56 yX11_row : Cond) ∈ Om := ot_84 _ (List.mem_of_getElem? (i := 11) rfl)
theorem om_2028 : (.instanceMethod yX11_row : Cond) ∈ Om := ot_84 _ (List.mem_of_getElem? (i := 12) rfl)
theorem om_2029 : (.selects RX11 yX11_row yX11_row : Cond) ∈ Om := ot_84 _ (List.mem_of_getElem? (i := 13) rfl)
theorem om_2030 : (.code yX11_promise cX11_promise 3 (some .int) : Cond) ∈ Om := ot_84 _ (List.mem_of_getElem? (i := 14) rfl)
theorem om_2031 : (.methodLink RL 60 yX11_promise : Cond) ∈ Om := ot_84 _ (List.mem_of_getElem? (i := 15) rfl)
theorem om_2032 : (.instanceMethod yX11_promise : Cond) ∈ Om := ot_84 _ (List.mem_of_getElem? (i := 16) rfl)
theorem om_2033 : (.selects RX11 yX11_promise yX11_promise : Cond) ∈ Om := ot_84 _ (List.mem_of_getElem? (i := 17) rfl)
theorem om_2034 : (.code yX11_broken cX11_broken 2 (some .int) : Cond) ∈ Om := ot_84 _ (List.mem_of_getElem? (i := 18) rfl)
theorem om_2035 : (.methodLink RL 64 yX11_broken : Cond) ∈ Om := ot_84 _ (List.mem_of_getElem? (i := 19) rfl)
theorem om_2036 : (.instanceMethod yX11_broken : Cond) ∈ Om := ot_84 _ (List.mem_of_getElem? (i := 20) rfl)
theorem om_2037 : (.selects RX11 yX11_broken yX11_broken : Cond) ∈ Om := ot_84 _ (List.mem_of_getElem? (i := 21) rfl)
theorem om_2038 : (.code yX11_take cX11_take 2 (some .int) : Cond) ∈ Om := ot_84 _ (List.mem_of_getElem? (i := 22) rfl)
theorem om_2039 : (.methodLink RL 68 yX11_take : Cond) ∈ Om := ot_84 _ (List.mem_of_getElem? (i := 23) rfl)
theorem om_2040 : (.instanceMethod yX11_take : Cond) ∈ Om := ot_85 _ (List.mem_of_getElem? (i := 0) rfl)
theorem om_2041 : (.selects RX11 yX11_take yX11_take : Cond) ∈ Om := ot_85 _ (List.mem_of_getElem? (i := 1) rfl)
theorem om_2042 : (.code yX11_slot cX11_slot 4 (some .long) : Cond) ∈ Om := ot_85 _ (List.mem_of_getElem? (i := 2) rfl)
theorem om_2043 : (.methodLink RL 71 yX11_slot : Cond) ∈ Om := ot_85 _ (List.mem_of_getElem? (i := 3) rfl)
theorem om_2044 : (.instanceMethod yX11_slot : Cond) ∈ Om := ot_85 _ (List.mem_of_getElem? (i := 4) rfl)
theorem om_2045 : (.selects RX11 yX11_slot yX11_slot : Cond) ∈ Om := ot_85 _ (List.mem_of_getElem? (i := 5) rfl)
theorem om_2046 : (.code yX11_holder cX11_holder 7 (some .int) : Cond) ∈ Om := ot_85 _ (List.mem_of_getElem? (i := 6) rfl)
theorem om_2047 : (.methodLink RL 74 yX11_holder : Cond) ∈ Om := ot_85 _ (List.mem_of_getElem? (i := 7) rfl)
theorem om_2048 : (.instanceMethod yX11_holder : Cond) ∈ Om := ot_85 _ (List.mem_of_getElem? (i := 8) rfl)
theorem om_2049 : (.selects RX11 yX11_holder yX11_holder : Cond) ∈ Om := ot_85 _ (List.mem_of_getElem? (i := 9) rfl)
theorem om_2050 : (.code yX11_member cX11_member 6 (some .int) : Cond) ∈ Om := ot_85 _ (List.mem_of_getElem? (i := 10) rfl)
theorem om_2051 : (.methodLink RL 78 yX11_member : Cond) ∈ Om := ot_85 _ (List.mem_of_getElem? (i := 11) rfl)
theorem om_2052 : (.instanceMethod yX11_member : Cond) ∈ Om := ot_85 _ (List.mem_of_getElem? (i := 12) rfl)
theorem om_2053 : (.selects RX11 yX11_member yX11_member : Cond) ∈ Om := ot_85 _ (List.mem_of_getElem? (i := 13) rfl)
theorem om_2054 : (.code yX11_lost cX11_lost 2 (some .int) : Cond) ∈ Om := ot_85 _ (List.mem_of_getElem? (i := 14) rfl)
theorem om_2055 : (.methodLink RL 81 yX11_lost : Cond) ∈ Om := ot_85 _ (List.mem_of_getElem? (i := 15) rfl)
theorem om_2056 : (.instanceMethod yX11_lost : Cond) ∈ Om := ot_85 _ (List.mem_of_getElem? (i := 16) rfl)
theorem om_2057 : (.selects RX11 yX11_lost yX11_lost : Cond) ∈ Om := ot_85 _ (List.mem_of_getElem? (i := 17) rfl)
theorem om_2058 : (.code yX11_growth cX11_growth 4 (some .int) : Cond) ∈ Om := ot_85 _ (List.mem_of_getElem? (i := 18) rfl)
theorem om_2059 : (.methodLink RL 84 yX11_growth : Cond) ∈ Om := ot_85 _ (List.mem_of_getElem? (i := 19) rfl)
theorem om_2060 : (.instanceMethod yX11_growth : Cond) ∈ Om := ot_85 _ (List.mem_of_getElem? (i := 20) rfl)
theorem om_2061 : (.selects RX11 yX11_growth yX11_growth : Cond) ∈ Om := ot_85 _ (List.mem_of_getElem? (i := 21) rfl)
theorem om_2062 : (.code yX11_like cX11_like 5 (some .boolean) : Cond) ∈ Om := ot_85 _ (List.mem_of_getElem? (i := 22) rfl)
theorem om_2063 : (.methodLink RL 87 yX11_like : Cond) ∈ Om := ot_85 _ (List.mem_of_getElem? (i := 23) rfl)
theorem om_2064 : (.instanceMethod yX11_like : Cond) ∈ Om := ot_86 _ (List.mem_of_getElem? (i := 0) rfl)
theorem om_2065 : (.selects RX11 yX11_like yX11_like : Cond) ∈ Om := ot_86 _ (List.mem_of_getElem? (i := 1) rfl)
theorem om_2066 : (.code yX11_ask cX11_ask 3 (some .int) : Cond) ∈ Om := ot_86 _ (List.mem_of_getElem? (i := 2) rfl)
theorem om_2067 : (.methodLink RL 91 yX11_ask : Cond) ∈ Om := ot_86 _ (List.mem_of_getElem? (i := 3) rfl)
theorem om_2068 : (.instanceMethod yX11_ask : Cond) ∈ Om := ot_86 _ (List.mem_of_getElem? (i := 4) rfl)
theorem om_2069 : (.selects RX11 yX11_ask yX11_ask : Cond) ∈ Om := ot_86 _ (List.mem_of_getElem? (i := 5) rfl)
theorem om_2070 : (.code yX11_answer cX11_answer 3 (some .long) : Cond) ∈ Om := ot_86 _ (List.mem_of_getElem? (i := 6) rfl)
theorem om_2071 : (.methodLink RL 94 yX11_answer : Cond) ∈ Om := ot_86 _ (List.mem_of_getElem? (i := 7) rfl)
theorem om_2072 : (.instanceMethod yX11_answer : Cond) ∈ Om := ot_86 _ (List.mem_of_getElem? (i := 8) rfl)
theorem om_2073 : (.selects RX11 yX11_answer yX11_answer : Cond) ∈ Om := ot_86 _ (List.mem_of_getElem? (i := 9) rfl)
theorem om_2074 : (.code yX11_rules cX11_rules 5 (some .int) : Cond) ∈ Om := ot_86 _ (List.mem_of_getElem? (i := 10) rfl)
theorem om_2075 : (.methodLink RL 97 yX11_rules : Cond) ∈ Om := ot_86 _ (List.mem_of_getElem? (i := 11) rfl)
theorem om_2076 : (.instanceMethod yX11_rules : Cond) ∈ Om := ot_86 _ (List.mem_of_getElem? (i := 12) rfl)
theorem om_2077 : (.selects RX11 yX11_rules yX11_rules : Cond) ∈ Om := ot_86 _ (List.mem_of_getElem? (i := 13) rfl)
theorem om_2078 : (.code yX11_isFact cX11_isFact 4 (some .boolean) : Cond) ∈ Om := ot_86 _ (List.mem_of_getElem? (i := 14) rfl)
theorem om_2079 : (.methodLink RL 100 yX11_isFact : Cond) ∈ Om := ot_86 _ (List.mem_of_getElem? (i := 15) rfl)
theorem om_2080 : (.instanceMethod yX11_isFact : Cond) ∈ Om := ot_86 _ (List.mem_of_getElem? (i := 16) rfl)
theorem om_2081 : (.selects RX11 yX11_isFact yX11_isFact : Cond) ∈ Om := ot_86 _ (List.mem_of_getElem? (i := 17) rfl)
theorem om_2082 : (.code yX11_bytes cX11_bytes 3 (some .int) : Cond) ∈ Om := ot_86 _ (List.mem_of_getElem? (i := 18) rfl)
theorem om_2083 : (.methodLink RL 104 yX11_bytes : Cond) ∈ Om := ot_86 _ (List.mem_of_getElem? (i := 19) rfl)
theorem om_2084 : (.instanceMethod yX11_bytes : Cond) ∈ Om := ot_86 _ (List.mem_of_getElem? (i := 20) rfl)
theorem om_2085 : (.selects RX11 yX11_bytes yX11_bytes : Cond) ∈ Om := ot_86 _ (List.mem_of_getElem? (i := 21) rfl)
theorem om_2086 : (.code yX11_load cX11_load 4 (some .int) : Cond) ∈ Om := ot_86 _ (List.mem_of_getElem? (i := 22) rfl)
theorem om_2087 : (.methodLink RL 107 yX11_load : Cond) ∈ Om := ot_86 _ (List.mem_of_getElem? (i := 23) rfl)
theorem om_2088 : (.instanceMethod yX11_load : Cond) ∈ Om := ot_87 _ (List.mem_of_getElem? (i := 0) rfl)
theorem om_2089 : (.selects RX11 yX11_load yX11_load : Cond) ∈ Om := ot_87 _ (List.mem_of_getElem? (i := 1) rfl)
theorem om_2090 : (.code yX11_keep cX11_keep 3 (some .int) : Cond) ∈ Om := ot_87 _ (List.mem_of_getElem? (i := 2) rfl)
theorem om_2091 : (.methodLink RL 110 yX11_keep : Cond) ∈ Om := ot_87 _ (List.mem_of_getElem? (i := 3) rfl)
theorem om_2092 : (.instanceMethod yX11_keep : Cond) ∈ Om := ot_87 _ (List.mem_of_getElem? (i := 4) rfl)
theorem om_2093 : (.selects RX11 yX11_keep yX11_keep : Cond) ∈ Om := ot_87 _ (List.mem_of_getElem? (i := 5) rfl)
theorem om_2094 : (.code yX11_recall cX11_recall 3 (some .int) : Cond) ∈ Om := ot_87 _ (List.mem_of_getElem? (i := 6) rfl)
theorem om_2095 : (.methodLink RL 113 yX11_recall : Cond) ∈ Om := ot_87 _ (List.mem_of_getElem? (i := 7) rfl)
theorem om_2096 : (.instanceMethod yX11_recall : Cond) ∈ Om := ot_87 _ (List.mem_of_getElem? (i := 8) rfl)
theorem om_2097 : (.selects RX11 yX11_recall yX11_recall : Cond) ∈ Om := ot_87 _ (List.mem_of_getElem? (i := 9) rfl)
theorem om_2098 : (.code yX11_feed cX11_feed 6 none : Cond) ∈ Om := ot_87 _ (List.mem_of_getElem? (i := 10) rfl)
theorem om_2099 : (.methodLink RL 120 yX11_feed : Cond) ∈ Om := ot_87 _ (List.mem_of_getElem? (i := 11) rfl)
theorem om_2100 : (.instanceMethod yX11_feed : Cond) ∈ Om := ot_87 _ (List.mem_of_getElem? (i := 12) rfl)
theorem om_2101 : (.selects RX11 yX11_feed yX11_feed : Cond) ∈ Om := ot_87 _ (List.mem_of_getElem? (i := 13) rfl)
theorem om_2102 : (.code yX12_feed cX12_feed 8 none : Cond) ∈ Om := ot_87 _ (List.mem_of_getElem? (i := 14) rfl)
theorem om_2103 : (.methodLink RL 124 yX12_feed : Cond) ∈ Om := ot_87 _ (List.mem_of_getElem? (i := 15) rfl)
theorem om_2104 : (.instanceMethod yX12_feed : Cond) ∈ Om := ot_87 _ (List.mem_of_getElem? (i := 16) rfl)
theorem om_2105 : (.selects RX12 yX12_feed yX12_feed : Cond) ∈ Om := ot_87 _ (List.mem_of_getElem? (i := 17) rfl)
theorem om_2106 : (.code yX11_end cX11_end 2 (some .int) : Cond) ∈ Om := ot_87 _ (List.mem_of_getElem? (i := 18) rfl)
theorem om_2107 : (.methodLink RL 125 yX11_end : Cond) ∈ Om := ot_87 _ (List.mem_of_getElem? (i := 19) rfl)
theorem om_2108 : (.instanceMethod yX11_end : Cond) ∈ Om := ot_87 _ (List.mem_of_getElem? (i := 20) rfl)
theorem om_2109 : (.selects RX11 yX11_end yX11_end : Cond) ∈ Om := ot_87 _ (List.mem_of_getElem? (i := 21) rfl)
theorem om_2110 : (.code yX12_end cX12_end 3 (some .int) : Cond) ∈ Om := ot_87 _ (List.mem_of_getElem? (i := 22) rfl)
theorem om_2111 : (.methodLink RL 128 yX12_end : Cond) ∈ Om := ot_87 _ (List.mem_of_getElem? (i := 23) rfl)
theorem om_2112 : (.instanceMethod yX12_end : Cond) ∈ Om := ot_88 _ (List.mem_of_getElem? (i := 0) rfl)
theorem om_2113 : (.selects RX12 yX12_end yX12_end : Cond) ∈ Om := ot_88 _ (List.mem_of_getElem? (i := 1) rfl)
theorem om_2114 : (.code yX11_wipe cX11_wipe 1 none : Cond) ∈ Om := ot_88 _ (List.mem_of_getElem? (i := 2) rfl)
theorem om_2115 : (.methodLink RL 129 yX11_wipe : Cond) ∈ Om := ot_88 _ (List.mem_of_getElem? (i := 3) rfl)
theorem om_2116 : (.instanceMethod yX11_wipe : Cond) ∈ Om := ot_88 _ (List.mem_of_getElem? (i := 4) rfl)
theorem om_2117 : (.selects RX11 yX11_wipe yX11_wipe : Cond) ∈ Om := ot_88 _ (List.mem_of_getElem? (i := 5) rfl)
theorem om_2118 : (.code yX12_wipe cX12_wipe 1 none : Cond) ∈ Om := ot_88 _ (List.mem_of_getElem? (i := 6) rfl)
theorem om_2119 : (.methodLink RL 132 yX12_wipe : Cond) ∈ Om := ot_88 _ (List.mem_of_getElem? (i := 7) rfl)
theorem om_2120 : (.instanceMethod yX12_wipe : Cond) ∈ Om := ot_88 _ (List.mem_of_getElem? (i := 8) rfl)
theorem om_2121 : (.selects RX12 yX12_wipe yX12_wipe : Cond) ∈ Om := ot_88 _ (List.mem_of_getElem? (i := 9) rfl)
theorem om_2122 : (.code yX11_flip cX11_flip 3 (some .boolean) : Cond) ∈ Om := ot_88 _ (List.mem_of_getElem? (i := 10) rfl)
theorem om_2123 : (.methodLink RL 133 yX11_flip : Cond) ∈ Om := ot_88 _ (List.mem_of_getElem? (i := 11) rfl)
theorem om_2124 : (.instanceMethod yX11_flip : Cond) ∈ Om := ot_88 _ (List.mem_of_getElem? (i := 12) rfl)
theorem om_2125 : (.selects RX11 yX11_flip yX11_flip : Cond) ∈ Om := ot_88 _ (List.mem_of_getElem? (i := 13) rfl)
theorem om_2126 : (.code yX12_flip cX12_flip 3 (some .boolean) : Cond) ∈ Om := ot_88 _ (List.mem_of_getElem? (i := 14) rfl)
theorem om_2127 : (.methodLink RL 137 yX12_flip : Cond) ∈ Om := ot_88 _ (List.mem_of_getElem? (i := 15) rfl)
theorem om_2128 : (.instanceMethod yX12_flip : Cond) ∈ Om := ot_88 _ (List.mem_of_getElem? (i := 16) rfl)
theorem om_2129 : (.selects RX12 yX12_flip yX12_flip : Cond) ∈ Om := ot_88 _ (List.mem_of_getElem? (i := 17) rfl)
theorem om_2130 : (.code yX11_cut cX11_cut 2 (some .boolean) : Cond) ∈ Om := ot_88 _ (List.mem_of_getElem? (i := 18) rfl)
theorem om_2131 : (.methodLink RL 138 yX11_cut : Cond) ∈ Om := ot_88 _ (List.mem_of_getElem? (i := 19) rfl)
theorem om_2132 : (.instanceMethod yX11_cut : Cond) ∈ Om := ot_88 _ (List.mem_of_getElem? (i := 20) rfl)
theorem om_2133 : (.selects RX11 yX11_cut yX11_cut : Cond) ∈ Om := ot_88 _ (List.mem_of_getElem? (i := 21) rfl)
theorem om_2134 : (.code yX12_cut cX12_cut 2 (some .boolean) : Cond) ∈ Om := ot_88 _ (List.mem_of_getElem? (i := 22) rfl)
theorem om_2135 : (.methodLink RL 142 yX12_cut : Cond) ∈ Om := ot_88 _ (List.mem_of_getElem? (i := 23) rfl)
theorem om_2136 : (.instanceMethod yX12_cut : Cond) ∈ Om := ot_89 _ (List.mem_of_getElem? (i := 0) rfl)
theorem om_2137 : (.selects RX12 yX12_cut yX12_cut : Cond) ∈ Om := ot_89 _ (List.mem_of_getElem? (i := 1) rfl)
theorem om_2138 : (.codeWith yL_type cL_type 5 (some .int) [(0, 10, 13, 13), (0, 10, 17, 15), (0, 10, 21, 17)] : Cond) ∈ Om := ot_89 _ (List.mem_of_getElem? (i := 2) rfl)
theorem om_2139 : (.methodLink RL 143 yL_type : Cond) ∈ Om := ot_89 _ (List.mem_of_getElem? (i := 3) rfl)
theorem om_2140 : (.static yL_type : Cond) ∈ Om := ot_89 _ (List.mem_of_getElem? (i := 4) rfl)
theorem om_2141 : (.initialized RL : Cond) ∈ Om := ot_89 _ (List.mem_of_getElem? (i := 5) rfl)
theorem om_2142 : (.code yX12_type cX12_type 7 (some .int) : Cond) ∈ Om := ot_89 _ (List.mem_of_getElem? (i := 6) rfl)
theorem om_2143 : (.methodLink RL 148 yX12_type : Cond) ∈ Om := ot_89 _ (List.mem_of_getElem? (i := 7) rfl)
theorem om_2144 : (.instanceMethod yX12_type : Cond) ∈ Om := ot_89 _ (List.mem_of_getElem? (i := 8) rfl)
theorem om_2145 : (.selects RX12 yX12_type yX12_type : Cond) ∈ Om := ot_89 _ (List.mem_of_getElem? (i := 9) rfl)
theorem om_2146 : (.code yX12_thrown cX12_thrown 1 (some .int) : Cond) ∈ Om := ot_89 _ (List.mem_of_getElem? (i := 10) rfl)
theorem om_2147 : (.methodLink RL 149 yX12_thrown : Cond) ∈ Om := ot_89 _ (List.mem_of_getElem? (i := 11) rfl)
theorem om_2148 : (.instanceMethod yX12_thrown : Cond) ∈ Om := ot_89 _ (List.mem_of_getElem? (i := 12) rfl)
theorem om_2149 : (.selects RX12 yX12_thrown yX12_thrown : Cond) ∈ Om := ot_89 _ (List.mem_of_getElem? (i := 13) rfl)
theorem om_2150 : (.codeWith yL_field cL_field 7 (some .int) [(0, 14, 17, 13), (0, 14, 21, 15), (0, 14, 25, 17)] : Cond) ∈ Om := ot_89 _ (List.mem_of_getElem? (i := 14) rfl)
theorem om_2151 : (.methodLink RL 152 yL_field : Cond) ∈ Om := ot_89 _ (List.mem_of_getElem? (i := 15) rfl)
theorem om_2152 : (.static yL_field : Cond) ∈ Om := ot_89 _ (List.mem_of_getElem? (i := 16) rfl)
theorem om_2153 : (.code yX12_field cX12_field 9 (some .int) : Cond) ∈ Om := ot_89 _ (List.mem_of_getElem? (i := 17) rfl)
theorem om_2154 : (.methodLink RL 155 yX12_field : Cond) ∈ Om := ot_89 _ (List.mem_of_getElem? (i := 18) rfl)
theorem om_2155 : (.instanceMethod yX12_field : Cond) ∈ Om := ot_89 _ (List.mem_of_getElem? (i := 19) rfl)
theorem om_2156 : (.selects RX12 yX12_field yX12_field : Cond) ∈ Om := ot_89 _ (List.mem_of_getElem? (i := 20) rfl)
theorem om_2157 : (.code yX11_typeLook cX11_typeLook 3 (some .int) : Cond) ∈ Om := ot_89 _ (List.mem_of_getElem? (i := 21) rfl)
theorem om_2158 : (.methodLink RL 156 yX11_typeLook : Cond) ∈ Om := ot_89 _ (List.mem_of_getElem? (i := 22) rfl)
theorem om_2159 : (.instanceMethod yX11_typeLook : Cond) ∈ Om := ot_89 _ (List.mem_of_getElem? (i := 23) rfl)
theorem om_2160 : (.selects RX11 yX11_typeLook yX11_typeLook : Cond) ∈ Om := ot_90 _ (List.mem_of_getElem? (i := 0) rfl)
theorem om_2161 : (.code yX12_typeLook cX12_typeLook 6 (some .int) : Cond) ∈ Om := ot_90 _ (List.mem_of_getElem? (i := 1) rfl)
theorem om_2162 : (.methodLink RL 159 yX12_typeLook : Cond) ∈ Om := ot_90 _ (List.mem_of_getElem? (i := 2) rfl)
theorem om_2163 : (.instanceMethod yX12_typeLook : Cond) ∈ Om := ot_90 _ (List.mem_of_getElem? (i := 3) rfl)
theorem om_2164 : (.selects RX12 yX12_typeLook yX12_typeLook : Cond) ∈ Om := ot_90 _ (List.mem_of_getElem? (i := 4) rfl)
theorem om_2165 : (.code yX11_fieldLook cX11_fieldLook 5 (some .int) : Cond) ∈ Om := ot_90 _ (List.mem_of_getElem? (i := 5) rfl)
theorem om_2166 : (.methodLink RL 160 yX11_fieldLook : Cond) ∈ Om := ot_90 _ (List.mem_of_getElem? (i := 6) rfl)
theorem om_2167 : (.instanceMethod yX11_fieldLook : Cond) ∈ Om := ot_90 _ (List.mem_of_getElem? (i := 7) rfl)
theorem om_2168 : (.selects RX11 yX11_fieldLook yX11_fieldLook : Cond) ∈ Om := ot_90 _ (List.mem_of_getElem? (i := 8) rfl)
theorem om_2169 : (.code yX12_fieldLook cX12_fieldLook 5 (some .int) : Cond) ∈ Om := ot_90 _ (List.mem_of_getElem? (i := 9) rfl)
theorem om_2170 : (.methodLink RL 163 yX12_fieldLook : Cond) ∈ Om := ot_90 _ (List.mem_of_getElem? (i := 10) rfl)
theorem om_2171 : (.instanceMethod yX12_fieldLook : Cond) ∈ Om := ot_90 _ (List.mem_of_getElem? (i := 11) rfl)
theorem om_2172 : (.selects RX12 yX12_fieldLook yX12_fieldLook : Cond) ∈ Om := ot_90 _ (List.mem_of_getElem? (i := 12) rfl)
theorem om_2173 : (.codeWith yL_make cL_make 5 (some .int) [(0, 10, 13, 15), (0, 10, 17, 17)] : Cond) ∈ Om := ot_90 _ (List.mem_of_getElem? (i := 13) rfl)
theorem om_2174 : (.methodLink RL 164 yL_make : Cond) ∈ Om := ot_90 _ (List.mem_of_getElem? (i := 14) rfl)
theorem om_2175 : (.static yL_make : Cond) ∈ Om := ot_90 _ (List.mem_of_getElem? (i := 15) rfl)
theorem om_2176 : (.code yX12_make cX12_make 4 (some .int) : Cond) ∈ Om := ot_90 _ (List.mem_of_getElem? (i := 16) rfl)
theorem om_2177 : (.methodLink RL 166 yX12_make : Cond) ∈ Om := ot_90 _ (List.mem_of_getElem? (i := 17) rfl)
theorem om_2178 : (.instanceMethod yX12_make : Cond) ∈ Om := ot_90 _ (List.mem_of_getElem? (i := 18) rfl)
theorem om_2179 : (.selects RX12 yX12_make yX12_make : Cond) ∈ Om := ot_90 _ (List.mem_of_getElem? (i := 19) rfl)
theorem om_2180 : (.codeWith yL_root cL_root 4 (some .int) [(0, 6, 9, 30), (0, 6, 12, 17)] : Cond) ∈ Om := ot_90 _ (List.mem_of_getElem? (i := 20) rfl)
theorem om_2181 : (.methodLink RL 167 yL_root : Cond) ∈ Om := ot_90 _ (List.mem_of_getElem? (i := 21) rfl)
theorem om_2182 : (.static yL_root : Cond) ∈ Om := ot_90 _ (List.mem_of_getElem? (i := 22) rfl)
theorem om_2183 : (.code yX12_root cX12_root 5 none : Cond) ∈ Om := ot_90 _ (List.mem_of_getElem? (i := 23) rfl)
theorem om_2184 : (.methodLink RL 170 yX12_root : Cond) ∈ Om := ot_91 _ (List.mem_of_getElem? (i := 0) rfl)
theorem om_2185 : (.instanceMethod yX12_root : Cond) ∈ Om := ot_91 _ (List.mem_of_getElem? (i := 1) rfl)
theorem om_2186 : (.selects RX12 yX12_root yX12_root : Cond) ∈ Om := ot_91 _ (List.mem_of_getElem? (i := 2) rfl)
theorem om_2187 : (.constantLong RL 171 (4294967295) : Cond) ∈ Om := ot_91 _ (List.mem_of_getElem? (i := 3) rfl)
theorem om_2188 : (.codeWith yL_set cL_set 7 (some .int) [(0, 12, 15, 30), (0, 12, 19, 15)] : Cond) ∈ Om := ot_91 _ (List.mem_of_getElem? (i := 4) rfl)
theorem om_2189 : (.methodLink RL 173 yL_set : Cond) ∈ Om := ot_91 _ (List.mem_of_getElem? (i := 5) rfl)
theorem om_2190 : (.static yL_set : Cond) ∈ Om := ot_91 _ (List.mem_of_getElem? (i := 6) rfl)
theorem om_2191 : (.code yX12_set cX12_set 5 (some .int) : Cond) ∈ Om := ot_91 _ (List.mem_of_getElem? (i := 7) rfl)
theorem om_2192 : (.methodLink RL 176 yX12_set : Cond) ∈ Om := ot_91 _ (List.mem_of_getElem? (i := 8) rfl)
theorem om_2193 : (.instanceMethod yX12_set : Cond) ∈ Om := ot_91 _ (List.mem_of_getElem? (i := 9) rfl)
theorem om_2194 : (.selects RX12 yX12_set yX12_set : Cond) ∈ Om := ot_91 _ (List.mem_of_getElem? (i := 10) rfl)
theorem om_2195 : (.codeWith yL_setStatic cL_setStatic 7 (some .int) [(0, 12, 15, 30), (0, 12, 19, 15)] : Cond) ∈ Om := ot_91 _ (List.mem_of_getElem? (i := 11) rfl)
theorem om_2196 : (.methodLink RL 177 yL_setStatic : Cond) ∈ Om := ot_91 _ (List.mem_of_getElem? (i := 12) rfl)
theorem om_2197 : (.static yL_setStatic : Cond) ∈ Om := ot_91 _ (List.mem_of_getElem? (i := 13) rfl)
theorem om_2198 : (.code yX12_setStatic cX12_setStatic 6 (some .int) : Cond) ∈ Om := ot_91 _ (List.mem_of_getElem? (i := 14) rfl)
theorem om_2199 : (.methodLink RL 179 yX12_setStatic : Cond) ∈ Om := ot_91 _ (List.mem_of_getElem? (i := 15) rfl)
theorem om_2200 : (.instanceMethod yX12_setStatic : Cond) ∈ Om := ot_91 _ (List.mem_of_getElem? (i := 16) rfl)
theorem om_2201 : (.selects RX12 yX12_setStatic yX12_setStatic : Cond) ∈ Om := ot_91 _ (List.mem_of_getElem? (i := 17) rfl)
theorem om_2202 : (.codeWith yL_get cL_get 5 (some .int) [(0, 9, 12, 30)] : Cond) ∈ Om := ot_91 _ (List.mem_of_getElem? (i := 18) rfl)
theorem om_2203 : (.methodLink RL 180 yL_get : Cond) ∈ Om := ot_91 _ (List.mem_of_getElem? (i := 19) rfl)
theorem om_2204 : (.static yL_get : Cond) ∈ Om := ot_91 _ (List.mem_of_getElem? (i := 20) rfl)
theorem om_2205 : (.code yX12_get cX12_get 3 (some .long) : Cond) ∈ Om := ot_91 _ (List.mem_of_getElem? (i := 21) rfl)
theorem om_2206 : (.methodLink RL 182 yX12_get : Cond) ∈ Om := ot_91 _ (List.mem_of_getElem? (i := 22) rfl)
theorem om_2207 : (.instanceMethod yX12_get : Cond) ∈ Om := ot_91 _ (List.mem_of_getElem? (i := 23) rfl)
theorem om_2208 : (.selects RX12 yX12_get yX12_get : Cond) ∈ Om := ot_92 _ (List.mem_of_getElem? (i := 0) rfl)
theorem om_2209 : (.codeWith yL_getStatic cL_getStatic 5 (some .int) [(0, 9, 12, 30)] : Cond) ∈ Om := ot_92 _ (List.mem_of_getElem? (i := 1) rfl)
theorem om_2210 : (.methodLink RL 183 yL_getStatic : Cond) ∈ Om := ot_92 _ (List.mem_of_getElem? (i := 2) rfl)
theorem om_2211 : (.static yL_getStatic : Cond) ∈ Om := ot_92 _ (List.mem_of_getElem? (i := 3) rfl)
theorem om_2212 : (.code yX12_getStatic cX12_getStatic 4 (some .long) : Cond) ∈ Om := ot_92 _ (List.mem_of_getElem? (i := 4) rfl)
theorem om_2213 : (.methodLink RL 185 yX12_getStatic : Cond) ∈ Om := ot_92 _ (List.mem_of_getElem? (i := 5) rfl)
theorem om_2214 : (.instanceMethod yX12_getStatic : Cond) ∈ Om := ot_92 _ (List.mem_of_getElem? (i := 6) rfl)
theorem om_2215 : (.selects RX12 yX12_getStatic yX12_getStatic : Cond) ∈ Om := ot_92 _ (List.mem_of_getElem? (i := 7) rfl)
theorem om_2216 : (.code yX11_object cX11_object 3 (some .int) : Cond) ∈ Om := ot_92 _ (List.mem_of_getElem? (i := 8) rfl)
theorem om_2217 : (.methodLink RL 186 yX11_object : Cond) ∈ Om := ot_92 _ (List.mem_of_getElem? (i := 9) rfl)
theorem om_2218 : (.instanceMethod yX11_object : Cond) ∈ Om := ot_92 _ (List.mem_of_getElem? (i := 10) rfl)
theorem om_2219 : (.selects RX11 yX11_object yX11_object : Cond) ∈ Om := ot_92 _ (List.mem_of_getElem? (i := 11) rfl)
theorem om_2220 : (.code yX12_object cX12_object 3 (some .int) : Cond) ∈ Om := ot_92 _ (List.mem_of_getElem? (i := 12) rfl)
theorem om_2221 : (.methodLink RL 189 yX12_object : Cond) ∈ Om := ot_92 _ (List.mem_of_getElem? (i := 13) rfl)
theorem om_2222 : (.instanceMethod yX12_object : Cond) ∈ Om := ot_92 _ (List.mem_of_getElem? (i := 14) rfl)
theorem om_2223 : (.selects RX12 yX12_object yX12_object : Cond) ∈ Om := ot_92 _ (List.mem_of_getElem? (i := 15) rfl)
theorem om_2224 : (.code yX11_collect cX11_collect 1 (some .int) : Cond) ∈ Om := ot_92 _ (List.mem_of_getElem? (i := 16) rfl)
theorem om_2225 : (.methodLink RL 190 yX11_collect : Cond) ∈ Om := ot_92 _ (List.mem_of_getElem? (i := 17) rfl)
theorem om_2226 : (.instanceMethod yX11_collect : Cond) ∈ Om := ot_92 _ (List.mem_of_getElem? (i := 18) rfl)
theorem om_2227 : (.selects RX11 yX11_collect yX11_collect : Cond) ∈ Om := ot_92 _ (List.mem_of_getElem? (i := 19) rfl)
theorem om_2228 : (.code yX12_collect cX12_collect 3 (some .int) : Cond) ∈ Om := ot_92 _ (List.mem_of_getElem? (i := 20) rfl)
theorem om_2229 : (.methodLink RL 193 yX12_collect : Cond) ∈ Om := ot_92 _ (List.mem_of_getElem? (i := 21) rfl)
theorem om_2230 : (.instanceMethod yX12_collect : Cond) ∈ Om := ot_92 _ (List.mem_of_getElem? (i := 22) rfl)
theorem om_2231 : (.selects RX12 yX12_collect yX12_collect : Cond) ∈ Om := ot_92 _ (List.mem_of_getElem? (i := 23) rfl)
theorem om_2232 : (.code yX11_undo cX11_undo 1 (some .int) : Cond) ∈ Om := ot_93 _ (List.mem_of_getElem? (i := 0) rfl)
theorem om_2233 : (.methodLink RL 194 yX11_undo : Cond) ∈ Om := ot_93 _ (List.mem_of_getElem? (i := 1) rfl)
theorem om_2234 : (.instanceMethod yX11_undo : Cond) ∈ Om := ot_93 _ (List.mem_of_getElem? (i := 2) rfl)
theorem om_2235 : (.selects RX11 yX11_undo yX11_undo : Cond) ∈ Om := ot_93 _ (List.mem_of_getElem? (i := 3) rfl)
theorem om_2236 : (.code yX12_undo cX12_undo 2 (some .int) : Cond) ∈ Om := ot_93 _ (List.mem_of_getElem? (i := 4) rfl)
theorem om_2237 : (.methodLink RL 197 yX12_undo : Cond) ∈ Om := ot_93 _ (List.mem_of_getElem? (i := 5) rfl)
theorem om_2238 : (.instanceMethod yX12_undo : Cond) ∈ Om := ot_93 _ (List.mem_of_getElem? (i := 6) rfl)
theorem om_2239 : (.selects RX12 yX12_undo yX12_undo : Cond) ∈ Om := ot_93 _ (List.mem_of_getElem? (i := 7) rfl)
theorem om_2240 : (.codeWith yL_swap cL_swap 5 (some .int) [(0, 10, 13, 30), (0, 10, 17, 15)] : Cond) ∈ Om := ot_93 _ (List.mem_of_getElem? (i := 8) rfl)
theorem om_2241 : (.methodLink RL 198 yL_swap : Cond) ∈ Om := ot_93 _ (List.mem_of_getElem? (i := 9) rfl)
theorem om_2242 : (.static yL_swap : Cond) ∈ Om := ot_93 _ (List.mem_of_getElem? (i := 10) rfl)
theorem om_2243 : (.code yX12_swap cX12_swap 9 (some .int) : Cond) ∈ Om := ot_93 _ (List.mem_of_getElem? (i := 11) rfl)
theorem om_2244 : (.methodLink RL 200 yX12_swap : Cond) ∈ Om := ot_93 _ (List.mem_of_getElem? (i := 12) rfl)
theorem om_2245 : (.instanceMethod yX12_swap : Cond) ∈ Om := ot_93 _ (List.mem_of_getElem? (i := 13) rfl)
theorem om_2246 : (.selects RX12 yX12_swap yX12_swap : Cond) ∈ Om := ot_93 _ (List.mem_of_getElem? (i := 14) rfl)
theorem om_2247 : (.codeWith yL_copy cL_copy 5 (some .int) [(0, 10, 13, 30), (0, 10, 17, 15), (0, 10, 21, 17)] : Cond) ∈ Om := ot_93 _ (List.mem_of_getElem? (i := 15) rfl)
theorem om_2248 : (.methodLink RL 201 yL_copy : Cond) ∈ Om := ot_93 _ (List.mem_of_getElem? (i := 16) rfl)
theorem om_2249 : (.static yL_copy : Cond) ∈ Om := ot_93 _ (List.mem_of_getElem? (i := 17) rfl)
theorem om_2250 : (.code yX12_copy cX12_copy 11 (some .int) : Cond) ∈ Om := ot_93 _ (List.mem_of_getElem? (i := 18) rfl)
theorem om_2251 : (.methodLink RL 203 yX12_copy : Cond) ∈ Om := ot_93 _ (List.mem_of_getElem? (i := 19) rfl)
theorem om_2252 : (.instanceMethod yX12_copy : Cond) ∈ Om := ot_93 _ (List.mem_of_getElem? (i := 20) rfl)
theorem om_2253 : (.selects RX12 yX12_copy yX12_copy : Cond) ∈ Om := ot_93 _ (List.mem_of_getElem? (i := 21) rfl)
theorem om_2254 : (.code yX11_apart cX11_apart 3 (some .boolean) : Cond) ∈ Om := ot_93 _ (List.mem_of_getElem? (i := 22) rfl)
theorem om_2255 : (.methodLink RL 204 yX11_apart : Cond) ∈ Om := ot_93 _ (List.mem_of_getElem? (i := 23) rfl)
theorem om_2256 : (.instanceMethod yX11_apart : Cond) ∈ Om := ot_94 _ (List.mem_of_getElem? (i := 0) rfl)
theorem om_2257 : (.selects RX11 yX11_apart yX11_apart : Cond) ∈ Om := ot_94 _ (List.mem_of_getElem? (i := 1) rfl)
theorem om_2258 : (.code yX12_apart cX12_apart 3 (some .boolean) : Cond) ∈ Om := ot_94 _ (List.mem_of_getElem? (i := 2) rfl)
theorem om_2259 : (.methodLink RL 208 yX12_apart : Cond) ∈ Om := ot_94 _ (List.mem_of_getElem? (i := 3) rfl)
theorem om_2260 : (.instanceMethod yX12_apart : Cond) ∈ Om := ot_94 _ (List.mem_of_getElem? (i := 4) rfl)
theorem om_2261 : (.selects RX12 yX12_apart yX12_apart : Cond) ∈ Om := ot_94 _ (List.mem_of_getElem? (i := 5) rfl)
theorem om_2262 : (.codeWith yL_watch cL_watch 6 (some .int) [(0, 12, 15, 30), (0, 12, 19, 15), (0, 12, 23, 17)] : Cond) ∈ Om := ot_94 _ (List.mem_of_getElem? (i := 6) rfl)
theorem om_2263 : (.methodLink RL 209 yL_watch : Cond) ∈ Om := ot_94 _ (List.mem_of_getElem? (i := 7) rfl)
theorem om_2264 : (.static yL_watch : Cond) ∈ Om := ot_94 _ (List.mem_of_getElem? (i := 8) rfl)
theorem om_2265 : (.code yX12_watch cX12_watch 4 (some .int) : Cond) ∈ Om := ot_94 _ (List.mem_of_getElem? (i := 9) rfl)
theorem om_2266 : (.methodLink RL 212 yX12_watch : Cond) ∈ Om := ot_94 _ (List.mem_of_getElem? (i := 10) rfl)
theorem om_2267 : (.instanceMethod yX12_watch : Cond) ∈ Om := ot_94 _ (List.mem_of_getElem? (i := 11) rfl)
theorem om_2268 : (.selects RX12 yX12_watch yX12_watch : Cond) ∈ Om := ot_94 _ (List.mem_of_getElem? (i := 12) rfl)
theorem om_2269 : (.methodLink RL 213 yX11_rows : Cond) ∈ Om := ot_94 _ (List.mem_of_getElem? (i := 13) rfl)
theorem om_2270 : (.code yX12_rows cX12_rows 2 (some .int) : Cond) ∈ Om := ot_94 _ (List.mem_of_getElem? (i := 14) rfl)
theorem om_2271 : (.methodLink RL 216 yX12_rows : Cond) ∈ Om := ot_94 _ (List.mem_of_getElem? (i := 15) rfl)
theorem om_2272 : (.instanceMethod yX12_rows : Cond) ∈ Om := ot_94 _ (List.mem_of_getElem? (i := 16) rfl)
theorem om_2273 : (.selects RX12 yX12_rows yX12_rows : Cond) ∈ Om := ot_94 _ (List.mem_of_getElem? (i := 17) rfl)
theorem om_2274 : (.codeWith yL_row cL_row 6 (some .int) [(0, 11, 14, 30)] : Cond) ∈ Om := ot_94 _ (List.mem_of_getElem? (i := 18) rfl)
theorem om_2275 : (.methodLink RL 217 yL_row : Cond) ∈ Om := ot_94 _ (List.mem_of_getElem? (i := 19) rfl)
theorem om_2276 : (.static yL_row : Cond) ∈ Om := ot_94 _ (List.mem_of_getElem? (i := 20) rfl)
theorem om_2277 : (.code yX12_row cX12_row 5 (some .long) : Cond) ∈ Om := ot_94 _ (List.mem_of_getElem? (i := 21) rfl)
theorem om_2278 : (.methodLink RL 219 yX12_row : Cond) ∈ Om := ot_94 _ (List.mem_of_getElem? (i := 22) rfl)
theorem om_2279 : (.instanceMethod yX12_row : Cond) ∈ Om := ot_94 _ (List.mem_of_getElem? (i := 23) rfl)
theorem om_2280 : (.selects RX12 yX12_row yX12_row : Cond) ∈ Om := ot_95 _ (List.mem_of_getElem? (i := 0) rfl)
theorem om_2281 : (.codeWith yL_promise cL_promise 3 (some .int) [(0, 8, 11, 17), (0, 8, 14, 15)] : Cond) ∈ Om := ot_95 _ (List.mem_of_getElem? (i := 1) rfl)
theorem om_2282 : (.methodLink RL 220 yL_promise : Cond) ∈ Om := ot_95 _ (List.mem_of_getElem? (i := 2) rfl)
theorem om_2283 : (.static yL_promise : Cond) ∈ Om := ot_95 _ (List.mem_of_getElem? (i := 3) rfl)
theorem om_2284 : (.code yX12_promise cX12_promise 3 (some .int) : Cond) ∈ Om := ot_95 _ (List.mem_of_getElem? (i := 4) rfl)
theorem om_2285 : (.methodLink RL 223 yX12_promise : Cond) ∈ Om := ot_95 _ (List.mem_of_getElem? (i := 5) rfl)
theorem om_2286 : (.instanceMethod yX12_promise : Cond) ∈ Om := ot_95 _ (List.mem_of_getElem? (i := 6) rfl)
theorem om_2287 : (.selects RX12 yX12_promise yX12_promise : Cond) ∈ Om := ot_95 _ (List.mem_of_getElem? (i := 7) rfl)
theorem om_2288 : (.codeWith yL_broken cL_broken 4 (some .int) [(0, 9, 12, 30)] : Cond) ∈ Om := ot_95 _ (List.mem_of_getElem? (i := 8) rfl)
theorem om_2289 : (.methodLink RL 224 yL_broken : Cond) ∈ Om := ot_95 _ (List.mem_of_getElem? (i := 9) rfl)
theorem om_2290 : (.static yL_broken : Cond) ∈ Om := ot_95 _ (List.mem_of_getElem? (i := 10) rfl)
theorem om_2291 : (.code yX12_broken cX12_broken 2 (some .int) : Cond) ∈ Om := ot_95 _ (List.mem_of_getElem? (i := 11) rfl)
theorem om_2292 : (.methodLink RL 227 yX12_broken : Cond) ∈ Om := ot_95 _ (List.mem_of_getElem? (i := 12) rfl)
theorem om_2293 : (.instanceMethod yX12_broken : Cond) ∈ Om := ot_95 _ (List.mem_of_getElem? (i := 13) rfl)
theorem om_2294 : (.selects RX12 yX12_broken yX12_broken : Cond) ∈ Om := ot_95 _ (List.mem_of_getElem? (i := 14) rfl)
theorem om_2295 : (.codeWith yL_take cL_take 4 (some .int) [(0, 9, 12, 13)] : Cond) ∈ Om := ot_95 _ (List.mem_of_getElem? (i := 15) rfl)
theorem om_2296 : (.methodLink RL 228 yL_take : Cond) ∈ Om := ot_95 _ (List.mem_of_getElem? (i := 16) rfl)
theorem om_2297 : (.static yL_take : Cond) ∈ Om := ot_95 _ (List.mem_of_getElem? (i := 17) rfl)
theorem om_2298 : (.code yX12_take cX12_take 2 (some .int) : Cond) ∈ Om := ot_95 _ (List.mem_of_getElem? (i := 18) rfl)
theorem om_2299 : (.methodLink RL 230 yX12_take : Cond) ∈ Om := ot_95 _ (List.mem_of_getElem? (i := 19) rfl)
theorem om_2300 : (.instanceMethod yX12_take : Cond) ∈ Om := ot_95 _ (List.mem_of_getElem? (i := 20) rfl)
theorem om_2301 : (.selects RX12 yX12_take yX12_take : Cond) ∈ Om := ot_95 _ (List.mem_of_getElem? (i := 21) rfl)
theorem om_2302 : (.code yX11_thing cX11_thing 5 (some .int) : Cond) ∈ Om := ot_95 _ (List.mem_of_getElem? (i := 22) rfl)
theorem om_2303 : (.methodLink RL 231 yX11_thing : Cond) ∈ Om := ot_95 _ (List.mem_of_getElem? (i := 23) rfl)
theorem om_2304 : (.instanceMethod yX11_thing : Cond) ∈ Om := ot_96 _ (List.mem_of_getElem? (i := 0) rfl)
theorem om_2305 : (.selects RX11 yX11_thing yX11_thing : Cond) ∈ Om := ot_96 _ (List.mem_of_getElem? (i := 1) rfl)
theorem om_2306 : (.code yX12_thing cX12_thing 5 (some .int) : Cond) ∈ Om := ot_96 _ (List.mem_of_getElem? (i := 2) rfl)
theorem om_2307 : (.methodLink RL 234 yX12_thing : Cond) ∈ Om := ot_96 _ (List.mem_of_getElem? (i := 3) rfl)
theorem om_2308 : (.instanceMethod yX12_thing : Cond) ∈ Om := ot_96 _ (List.mem_of_getElem? (i := 4) rfl)
theorem om_2309 : (.selects RX12 yX12_thing yX12_thing : Cond) ∈ Om := ot_96 _ (List.mem_of_getElem? (i := 5) rfl)
theorem om_2310 : (.codeWith yL_slot cL_slot 6 (some .int) [(0, 11, 14, 30)] : Cond) ∈ Om := ot_96 _ (List.mem_of_getElem? (i := 6) rfl)
theorem om_2311 : (.methodLink RL 235 yL_slot : Cond) ∈ Om := ot_96 _ (List.mem_of_getElem? (i := 7) rfl)
theorem om_2312 : (.static yL_slot : Cond) ∈ Om := ot_96 _ (List.mem_of_getElem? (i := 8) rfl)
theorem om_2313 : (.code yX12_slot cX12_slot 4 (some .long) : Cond) ∈ Om := ot_96 _ (List.mem_of_getElem? (i := 9) rfl)
theorem om_2314 : (.methodLink RL 237 yX12_slot : Cond) ∈ Om := ot_96 _ (List.mem_of_getElem? (i := 10) rfl)
theorem om_2315 : (.instanceMethod yX12_slot : Cond) ∈ Om := ot_96 _ (List.mem_of_getElem? (i := 11) rfl)
theorem om_2316 : (.selects RX12 yX12_slot yX12_slot : Cond) ∈ Om := ot_96 _ (List.mem_of_getElem? (i := 12) rfl)
theorem om_2317 : (.codeWith yL_holder cL_holder 7 (some .int) [(0, 14, 17, 30)] : Cond) ∈ Om := ot_96 _ (List.mem_of_getElem? (i := 13) rfl)
theorem om_2318 : (.methodLink RL 238 yL_holder : Cond) ∈ Om := ot_96 _ (List.mem_of_getElem? (i := 14) rfl)
theorem om_2319 : (.static yL_holder : Cond) ∈ Om := ot_96 _ (List.mem_of_getElem? (i := 15) rfl)
theorem om_2320 : (.code yX12_holder cX12_holder 9 (some .int) : Cond) ∈ Om := ot_96 _ (List.mem_of_getElem? (i := 16) rfl)
theorem om_2321 : (.methodLink RL 241 yX12_holder : Cond) ∈ Om := ot_96 _ (List.mem_of_getElem? (i := 17) rfl)
theorem om_2322 : (.instanceMethod yX12_holder : Cond) ∈ Om := ot_96 _ (List.mem_of_getElem? (i := 18) rfl)
theorem om_2323 : (.selects RX12 yX12_holder yX12_holder : Cond) ∈ Om := ot_96 _ (List.mem_of_getElem? (i := 19) rfl)
theorem om_2324 : (.code yX11_picture cX11_picture 4 (some .int) : Cond) ∈ Om := ot_96 _ (List.mem_of_getElem? (i := 20) rfl)
theorem om_2325 : (.methodLink RL 242 yX11_picture : Cond) ∈ Om := ot_96 _ (List.mem_of_getElem? (i := 21) rfl)
theorem om_2326 : (.instanceMethod yX11_picture : Cond) ∈ Om := ot_96 _ (List.mem_of_getElem? (i := 22) rfl)
theorem om_2327 : (.selects RX11 yX11_picture yX11_picture : Cond) ∈ Om := ot_96 _ (List.mem_of_getElem? (i := 23) rfl)
theorem om_2328 : (.code yX12_picture cX12_picture 10 (some .int) : Cond) ∈ Om := ot_97 _ (List.mem_of_getElem? (i := 0) rfl)
theorem om_2329 : (.methodLink RL 245 yX12_picture : Cond) ∈ Om := ot_97 _ (List.mem_of_getElem? (i := 1) rfl)
theorem om_2330 : (.instanceMethod yX12_picture : Cond) ∈ Om := ot_97 _ (List.mem_of_getElem? (i := 2) rfl)
theorem om_2331 : (.selects RX12 yX12_picture yX12_picture : Cond) ∈ Om := ot_97 _ (List.mem_of_getElem? (i := 3) rfl)
theorem om_2332 : (.codeWith yL_member cL_member 7 (some .int) [(0, 14, 17, 30)] : Cond) ∈ Om := ot_97 _ (List.mem_of_getElem? (i := 4) rfl)
theorem om_2333 : (.methodLink RL 246 yL_member : Cond) ∈ Om := ot_97 _ (List.mem_of_getElem? (i := 5) rfl)
theorem om_2334 : (.static yL_member : Cond) ∈ Om := ot_97 _ (List.mem_of_getElem? (i := 6) rfl)
theorem om_2335 : (.code yX12_member cX12_member 8 (some .int) : Cond) ∈ Om := ot_97 _ (List.mem_of_getElem? (i := 7) rfl)
theorem om_2336 : (.methodLink RL 248 yX12_member : Cond) ∈ Om := ot_97 _ (List.mem_of_getElem? (i := 8) rfl)
theorem om_2337 : (.instanceMethod yX12_member : Cond) ∈ Om := ot_97 _ (List.mem_of_getElem? (i := 9) rfl)
theorem om_2338 : (.selects RX12 yX12_member yX12_member : Cond) ∈ Om := ot_97 _ (List.mem_of_getElem? (i := 10) rfl)
theorem om_2339 : (.code yX11_choose cX11_choose 4 (some .boolean) : Cond) ∈ Om := ot_97 _ (List.mem_of_getElem? (i := 11) rfl)
theorem om_2340 : (.methodLink RL 249 yX11_choose : Cond) ∈ Om := ot_97 _ (List.mem_of_getElem? (i := 12) rfl)
theorem om_2341 : (.instanceMethod yX11_choose : Cond) ∈ Om := ot_97 _ (List.mem_of_getElem? (i := 13) rfl)
theorem om_2342 : (.selects RX11 yX11_choose yX11_choose : Cond) ∈ Om := ot_97 _ (List.mem_of_getElem? (i := 14) rfl)
theorem om_2343 : (.code yX12_choose cX12_choose 4 (some .boolean) : Cond) ∈ Om := ot_97 _ (List.mem_of_getElem? (i := 15) rfl)
theorem om_2344 : (.methodLink RL 253 yX12_choose : Cond) ∈ Om := ot_97 _ (List.mem_of_getElem? (i := 16) rfl)
theorem om_2345 : (.instanceMethod yX12_choose : Cond) ∈ Om := ot_97 _ (List.mem_of_getElem? (i := 17) rfl)
theorem om_2346 : (.selects RX12 yX12_choose yX12_choose : Cond) ∈ Om := ot_97 _ (List.mem_of_getElem? (i := 18) rfl)
theorem om_2347 : (.codeWith yL_lost cL_lost 4 (some .int) [(0, 9, 12, 13)] : Cond) ∈ Om := ot_97 _ (List.mem_of_getElem? (i := 19) rfl)
theorem om_2348 : (.methodLink RL 254 yL_lost : Cond) ∈ Om := ot_97 _ (List.mem_of_getElem? (i := 20) rfl)
theorem om_2349 : (.static yL_lost : Cond) ∈ Om := ot_97 _ (List.mem_of_getElem? (i := 21) rfl)
theorem om_2350 : (.code yX12_lost cX12_lost 3 (some .int) : Cond) ∈ Om := ot_97 _ (List.mem_of_getElem? (i := 22) rfl)
theorem om_2351 : (.methodLink RL 256 yX12_lost : Cond) ∈ Om := ot_97 _ (List.mem_of_getElem? (i := 23) rfl)
theorem om_2352 : (.instanceMethod yX12_lost : Cond) ∈ Om := ot_98 _ (List.mem_of_getElem? (i := 0) rfl)
theorem om_2353 : (.selects RX12 yX12_lost yX12_lost : Cond) ∈ Om := ot_98 _ (List.mem_of_getElem? (i := 1) rfl)
theorem om_2354 : (.code yX11_lostThing cX11_lostThing 3 (some .int) : Cond) ∈ Om := ot_98 _ (List.mem_of_getElem? (i := 2) rfl)
theorem om_2355 : (.methodLink RL 257 yX11_lostThing : Cond) ∈ Om := ot_98 _ (List.mem_of_getElem? (i := 3) rfl)
theorem om_2356 : (.instanceMethod yX11_lostThing : Cond) ∈ Om := ot_98 _ (List.mem_of_getElem? (i := 4) rfl)
theorem om_2357 : (.selects RX11 yX11_lostThing yX11_lostThing : Cond) ∈ Om := ot_98 _ (List.mem_of_getElem? (i := 5) rfl)
theorem om_2358 : (.code yX12_lostThing cX12_lostThing 3 (some .int) : Cond) ∈ Om := ot_98 _ (List.mem_of_getElem? (i := 6) rfl)
theorem om_2359 : (.methodLink RL 260 yX12_lostThing : Cond) ∈ Om := ot_98 _ (List.mem_of_getElem? (i := 7) rfl)
theorem om_2360 : (.instanceMethod yX12_lostThing : Cond) ∈ Om := ot_98 _ (List.mem_of_getElem? (i := 8) rfl)
theorem om_2361 : (.selects RX12 yX12_lostThing yX12_lostThing : Cond) ∈ Om := ot_98 _ (List.mem_of_getElem? (i := 9) rfl)
theorem om_2362 : (.codeWith yL_growth cL_growth 6 (some .int) [(0, 12, 15, 13)] : Cond) ∈ Om := ot_98 _ (List.mem_of_getElem? (i := 10) rfl)
theorem om_2363 : (.methodLink RL 261 yL_growth : Cond) ∈ Om := ot_98 _ (List.mem_of_getElem? (i := 11) rfl)
theorem om_2364 : (.static yL_growth : Cond) ∈ Om := ot_98 _ (List.mem_of_getElem? (i := 12) rfl)
theorem om_2365 : (.code yX12_growth cX12_growth 8 (some .int) : Cond) ∈ Om := ot_98 _ (List.mem_of_getElem? (i := 13) rfl)
theorem om_2366 : (.methodLink RL 263 yX12_growth : Cond) ∈ Om := ot_98 _ (List.mem_of_getElem? (i := 14) rfl)
theorem om_2367 : (.instanceMethod yX12_growth : Cond) ∈ Om := ot_98 _ (List.mem_of_getElem? (i := 15) rfl)
theorem om_2368 : (.selects RX12 yX12_growth yX12_growth : Cond) ∈ Om := ot_98 _ (List.mem_of_getElem? (i := 16) rfl)
theorem om_2369 : (.code yX11_grown cX11_grown 2 (some .int) : Cond) ∈ Om := ot_98 _ (List.mem_of_getElem? (i := 17) rfl)
theorem om_2370 : (.methodLink RL 264 yX11_grown : Cond) ∈ Om := ot_98 _ (List.mem_of_getElem? (i := 18) rfl)
theorem om_2371 : (.instanceMethod yX11_grown : Cond) ∈ Om := ot_98 _ (List.mem_of_getElem? (i := 19) rfl)
theorem om_2372 : (.selects RX11 yX11_grown yX11_grown : Cond) ∈ Om := ot_98 _ (List.mem_of_getElem? (i := 20) rfl)
theorem om_2373 : (.code yX12_grown cX12_grown 2 (some .int) : Cond) ∈ Om := ot_98 _ (List.mem_of_getElem? (i := 21) rfl)
theorem om_2374 : (.methodLink RL 267 yX12_grown : Cond) ∈ Om := ot_98 _ (List.mem_of_getElem? (i := 22) rfl)
theorem om_2375 : (.instanceMethod yX12_grown : Cond) ∈ Om := ot_98 _ (List.mem_of_getElem? (i := 23) rfl)
theorem om_2376 : (.selects RX12 yX12_grown yX12_grown : Cond) ∈ Om := ot_99 _ (List.mem_of_getElem? (i := 0) rfl)
theorem om_2377 : (.codeWith yL_like cL_like 7 (some .int) [(0, 21, 24, 30)] : Cond) ∈ Om := ot_99 _ (List.mem_of_getElem? (i := 1) rfl)
theorem om_2378 : (.methodLink RL 268 yL_like : Cond) ∈ Om := ot_99 _ (List.mem_of_getElem? (i := 2) rfl)
theorem om_2379 : (.static yL_like : Cond) ∈ Om := ot_99 _ (List.mem_of_getElem? (i := 3) rfl)
theorem om_2380 : (.code yX12_like cX12_like 15 (some .boolean) : Cond) ∈ Om := ot_99 _ (List.mem_of_getElem? (i := 4) rfl)
theorem om_2381 : (.methodLink RL 270 yX12_like : Cond) ∈ Om := ot_99 _ (List.mem_of_getElem? (i := 5) rfl)
theorem om_2382 : (.instanceMethod yX12_like : Cond) ∈ Om := ot_99 _ (List.mem_of_getElem? (i := 6) rfl)
theorem om_2383 : (.selects RX12 yX12_like yX12_like : Cond) ∈ Om := ot_99 _ (List.mem_of_getElem? (i := 7) rfl)
theorem om_2384 : (.codeWith yL_ask cL_ask 4 (some .int) [(0, 9, 12, 13), (0, 9, 15, 15)] : Cond) ∈ Om := ot_99 _ (List.mem_of_getElem? (i := 8) rfl)
theorem om_2385 : (.methodLink RL 271 yL_ask : Cond) ∈ Om := ot_99 _ (List.mem_of_getElem? (i := 9) rfl)
theorem om_2386 : (.static yL_ask : Cond) ∈ Om := ot_99 _ (List.mem_of_getElem? (i := 10) rfl)
theorem om_2387 : (.code yX12_ask cX12_ask 5 (some .int) : Cond) ∈ Om := ot_99 _ (List.mem_of_getElem? (i := 11) rfl)
theorem om_2388 : (.methodLink RL 273 yX12_ask : Cond) ∈ Om := ot_99 _ (List.mem_of_getElem? (i := 12) rfl)
theorem om_2389 : (.instanceMethod yX12_ask : Cond) ∈ Om := ot_99 _ (List.mem_of_getElem? (i := 13) rfl)
theorem om_2390 : (.selects RX12 yX12_ask yX12_ask : Cond) ∈ Om := ot_99 _ (List.mem_of_getElem? (i := 14) rfl)
theorem om_2391 : (.codeWith yL_answer cL_answer 5 (some .int) [(0, 9, 12, 30)] : Cond) ∈ Om := ot_99 _ (List.mem_of_getElem? (i := 15) rfl)
theorem om_2392 : (.methodLink RL 274 yL_answer : Cond) ∈ Om := ot_99 _ (List.mem_of_getElem? (i := 16) rfl)
theorem om_2393 : (.static yL_answer : Cond) ∈ Om := ot_99 _ (List.mem_of_getElem? (i := 17) rfl)
theorem om_2394 : (.code yX12_answer cX12_answer 3 (some .long) : Cond) ∈ Om := ot_99 _ (List.mem_of_getElem? (i := 18) rfl)
theorem om_2395 : (.methodLink RL 276 yX12_answer : Cond) ∈ Om := ot_99 _ (List.mem_of_getElem? (i := 19) rfl)
theorem om_2396 : (.instanceMethod yX12_answer : Cond) ∈ Om := ot_99 _ (List.mem_of_getElem? (i := 20) rfl)
theorem om_2397 : (.selects RX12 yX12_answer yX12_answer : Cond) ∈ Om := ot_99 _ (List.mem_of_getElem? (i := 21) rfl)
theorem om_2398 : (.codeWith yL_rules cL_rules 4 (some .int) [(0, 9, 12, 13), (0, 9, 15, 17), (0, 9, 18, 15)] : Cond) ∈ Om := ot_99 _ (List.mem_of_getElem? (i := 22) rfl)
theorem om_2399 : (.methodLink RL 277 yL_rules : Cond) ∈ Om := ot_99 _ (List.mem_of_getElem? (i := 23) rfl)
theorem om_2400 : (.static yL_rules : Cond) ∈ Om := ot_100 _ (List.mem_of_getElem? (i := 0) rfl)
theorem om_2401 : (.code yX12_rules cX12_rules 4 (some .int) : Cond) ∈ Om := ot_100 _ (List.mem_of_getElem? (i := 1) rfl)
theorem om_2402 : (.methodLink RL 279 yX12_rules : Cond) ∈ Om := ot_100 _ (List.mem_of_getElem? (i := 2) rfl)
theorem om_2403 : (.instanceMethod yX12_rules : Cond) ∈ Om := ot_100 _ (List.mem_of_getElem? (i := 3) rfl)
theorem om_2404 : (.selects RX12 yX12_rules yX12_rules : Cond) ∈ Om := ot_100 _ (List.mem_of_getElem? (i := 4) rfl)
theorem om_2405 : (.code yX11_facts cX11_facts 2 (some .int) : Cond) ∈ Om := ot_100 _ (List.mem_of_getElem? (i := 5) rfl)
theorem om_2406 : (.methodLink RL 280 yX11_facts : Cond) ∈ Om := ot_100 _ (List.mem_of_getElem? (i := 6) rfl)
theorem om_2407 : (.instanceMethod yX11_facts : Cond) ∈ Om := ot_100 _ (List.mem_of_getElem? (i := 7) rfl)
theorem om_2408 : (.selects RX11 yX11_facts yX11_facts : Cond) ∈ Om := ot_100 _ (List.mem_of_getElem? (i := 8) rfl)
theorem om_2409 : (.code yX12_facts cX12_facts 2 (some .int) : Cond) ∈ Om := ot_100 _ (List.mem_of_getElem? (i := 9) rfl)
theorem om_2410 : (.methodLink RL 283 yX12_facts : Cond) ∈ Om := ot_100 _ (List.mem_of_getElem? (i := 10) rfl)
theorem om_2411 : (.instanceMethod yX12_facts : Cond) ∈ Om := ot_100 _ (List.mem_of_getElem? (i := 11) rfl)
theorem om_2412 : (.selects RX12 yX12_facts yX12_facts : Cond) ∈ Om := ot_100 _ (List.mem_of_getElem? (i := 12) rfl)
theorem om_2413 : (.codeWith yL_isFact cL_isFact 6 (some .int) [(0, 19, 22, 30)] : Cond) ∈ Om := ot_100 _ (List.mem_of_getElem? (i := 13) rfl)
theorem om_2414 : (.methodLink RL 284 yL_isFact : Cond) ∈ Om := ot_100 _ (List.mem_of_getElem? (i := 14) rfl)
theorem om_2415 : (.static yL_isFact : Cond) ∈ Om := ot_100 _ (List.mem_of_getElem? (i := 15) rfl)
theorem om_2416 : (.code yX12_isFact cX12_isFact 5 (some .boolean) : Cond) ∈ Om := ot_100 _ (List.mem_of_getElem? (i := 16) rfl)
theorem om_2417 : (.methodLink RL 286 yX12_isFact : Cond) ∈ Om := ot_100 _ (List.mem_of_getElem? (i := 17) rfl)
theorem om_2418 : (.instanceMethod yX12_isFact : Cond) ∈ Om := ot_100 _ (List.mem_of_getElem? (i := 18) rfl)
theorem om_2419 : (.selects RX12 yX12_isFact yX12_isFact : Cond) ∈ Om := ot_100 _ (List.mem_of_getElem? (i := 19) rfl)
theorem om_2420 : (.code yX11_fault cX11_fault 2 (some .int) : Cond) ∈ Om := ot_100 _ (List.mem_of_getElem? (i := 20) rfl)
theorem om_2421 : (.methodLink RL 287 yX11_fault : Cond) ∈ Om := ot_100 _ (List.mem_of_getElem? (i := 21) rfl)
theorem om_2422 : (.instanceMethod yX11_fault : Cond) ∈ Om := ot_100 _ (List.mem_of_getElem? (i := 22) rfl)
theorem om_2423 : (.selects RX11 yX11_fault yX11_fault : Cond) ∈ Om := ot_100 _ (List.mem_of_getElem? (i := 23) rfl)
theorem om_2424 : (.code yX12_fault cX12_fault 2 (some .int) : Cond) ∈ Om := ot_101 _ (List.mem_of_getElem? (i := 0) rfl)
theorem om_2425 : (.methodLink RL 290 yX12_fault : Cond) ∈ Om := ot_101 _ (List.mem_of_getElem? (i := 1) rfl)
theorem om_2426 : (.instanceMethod yX12_fault : Cond) ∈ Om := ot_101 _ (List.mem_of_getElem? (i := 2) rfl)
theorem om_2427 : (.selects RX12 yX12_fault yX12_fault : Cond) ∈ Om := ot_101 _ (List.mem_of_getElem? (i := 3) rfl)
theorem om_2428 : (.codeWith yL_bytes cL_bytes 4 (some .int) [(0, 9, 12, 13), (0, 9, 15, 17)] : Cond) ∈ Om := ot_101 _ (List.mem_of_getElem? (i := 4) rfl)
theorem om_2429 : (.methodLink RL 291 yL_bytes : Cond) ∈ Om := ot_101 _ (List.mem_of_getElem? (i := 5) rfl)
theorem om_2430 : (.static yL_bytes : Cond) ∈ Om := ot_101 _ (List.mem_of_getElem? (i := 6) rfl)
theorem om_2431 : (.code yX12_bytes cX12_bytes 3 (some .int) : Cond) ∈ Om := ot_101 _ (List.mem_of_getElem? (i := 7) rfl)
theorem om_2432 : (.methodLink RL 293 yX12_bytes : Cond) ∈ Om := ot_101 _ (List.mem_of_getElem? (i := 8) rfl)
theorem om_2433 : (.instanceMethod yX12_bytes : Cond) ∈ Om := ot_101 _ (List.mem_of_getElem? (i := 9) rfl)
theorem om_2434 : (.selects RX12 yX12_bytes yX12_bytes : Cond) ∈ Om := ot_101 _ (List.mem_of_getElem? (i := 10) rfl)
theorem om_2435 : (.code yX11_letter cX11_letter 2 (some .int) : Cond) ∈ Om := ot_101 _ (List.mem_of_getElem? (i := 11) rfl)
theorem om_2436 : (.methodLink RL 294 yX11_letter : Cond) ∈ Om := ot_101 _ (List.mem_of_getElem? (i := 12) rfl)
theorem om_2437 : (.instanceMethod yX11_letter : Cond) ∈ Om := ot_101 _ (List.mem_of_getElem? (i := 13) rfl)
theorem om_2438 : (.selects RX11 yX11_letter yX11_letter : Cond) ∈ Om := ot_101 _ (List.mem_of_getElem? (i := 14) rfl)
theorem om_2439 : (.code yX12_letter cX12_letter 2 (some .int) : Cond) ∈ Om := ot_101 _ (List.mem_of_getElem? (i := 15) rfl)
theorem om_2440 : (.methodLink RL 297 yX12_letter : Cond) ∈ Om := ot_101 _ (List.mem_of_getElem? (i := 16) rfl)
theorem om_2441 : (.instanceMethod yX12_letter : Cond) ∈ Om := ot_101 _ (List.mem_of_getElem? (i := 17) rfl)
theorem om_2442 : (.selects RX12 yX12_letter yX12_letter : Cond) ∈ Om := ot_101 _ (List.mem_of_getElem? (i := 18) rfl)
theorem om_2443 : (.codeWith yL_load cL_load 4 (some .int) [(0, 9, 12, 13), (0, 9, 15, 15)] : Cond) ∈ Om := ot_101 _ (List.mem_of_getElem? (i := 19) rfl)
theorem om_2444 : (.methodLink RL 298 yL_load : Cond) ∈ Om := ot_101 _ (List.mem_of_getElem? (i := 20) rfl)
theorem om_2445 : (.static yL_load : Cond) ∈ Om := ot_101 _ (List.mem_of_getElem? (i := 21) rfl)
theorem om_2446 : (.code yX12_load cX12_load 3 (some .int) : Cond) ∈ Om := ot_101 _ (List.mem_of_getElem? (i := 22) rfl)
theorem om_2447 : (.methodLink RL 300 yX12_load : Cond) ∈ Om := ot_101 _ (List.mem_of_getElem? (i := 23) rfl)
theorem om_2448 : (.instanceMethod yX12_load : Cond) ∈ Om := ot_102 _ (List.mem_of_getElem? (i := 0) rfl)
theorem om_2449 : (.selects RX12 yX12_load yX12_load : Cond) ∈ Om := ot_102 _ (List.mem_of_getElem? (i := 1) rfl)
theorem om_2450 : (.codeWith yL_keep cL_keep 4 (some .int) [(0, 9, 12, 13), (0, 9, 15, 17)] : Cond) ∈ Om := ot_102 _ (List.mem_of_getElem? (i := 2) rfl)
theorem om_2451 : (.methodLink RL 301 yL_keep : Cond) ∈ Om := ot_102 _ (List.mem_of_getElem? (i := 3) rfl)
theorem om_2452 : (.static yL_keep : Cond) ∈ Om := ot_102 _ (List.mem_of_getElem? (i := 4) rfl)
theorem om_2453 : (.code yX12_keep cX12_keep 3 (some .int) : Cond) ∈ Om := ot_102 _ (List.mem_of_getElem? (i := 5) rfl)
theorem om_2454 : (.methodLink RL 303 yX12_keep : Cond) ∈ Om := ot_102 _ (List.mem_of_getElem? (i := 6) rfl)
theorem om_2455 : (.instanceMethod yX12_keep : Cond) ∈ Om := ot_102 _ (List.mem_of_getElem? (i := 7) rfl)
theorem om_2456 : (.selects RX12 yX12_keep yX12_keep : Cond) ∈ Om := ot_102 _ (List.mem_of_getElem? (i := 8) rfl)
theorem om_2457 : (.code yX11_reopen cX11_reopen 2 (some .int) : Cond) ∈ Om := ot_102 _ (List.mem_of_getElem? (i := 9) rfl)
theorem om_2458 : (.methodLink RL 304 yX11_reopen : Cond) ∈ Om := ot_102 _ (List.mem_of_getElem? (i := 10) rfl)
theorem om_2459 : (.instanceMethod yX11_reopen : Cond) ∈ Om := ot_102 _ (List.mem_of_getElem? (i := 11) rfl)
theorem om_2460 : (.selects RX11 yX11_reopen yX11_reopen : Cond) ∈ Om := ot_102 _ (List.mem_of_getElem? (i := 12) rfl)
theorem om_2461 : (.code yX12_reopen cX12_reopen 5 (some .int) : Cond) ∈ Om := ot_102 _ (List.mem_of_getElem? (i := 13) rfl)
theorem om_2462 : (.methodLink RL 307 yX12_reopen : Cond) ∈ Om := ot_102 _ (List.mem_of_getElem? (i := 14) rfl)
theorem om_2463 : (.instanceMethod yX12_reopen : Cond) ∈ Om := ot_102 _ (List.mem_of_getElem? (i := 15) rfl)
theorem om_2464 : (.selects RX12 yX12_reopen yX12_reopen : Cond) ∈ Om := ot_102 _ (List.mem_of_getElem? (i := 16) rfl)
theorem om_2465 : (.codeWith yL_recall cL_recall 5 (some .int) [(0, 10, 13, 13), (0, 10, 17, 30)] : Cond) ∈ Om := ot_102 _ (List.mem_of_getElem? (i := 17) rfl)
theorem om_2466 : (.methodLink RL 308 yL_recall : Cond) ∈ Om := ot_102 _ (List.mem_of_getElem? (i := 18) rfl)
theorem om_2467 : (.static yL_recall : Cond) ∈ Om := ot_102 _ (List.mem_of_getElem? (i := 19) rfl)
theorem om_2468 : (.code yX12_recall cX12_recall 3 (some .int) : Cond) ∈ Om := ot_102 _ (List.mem_of_getElem? (i := 20) rfl)
theorem om_2469 : (.methodLink RL 310 yX12_recall : Cond) ∈ Om := ot_102 _ (List.mem_of_getElem? (i := 21) rfl)
theorem om_2470 : (.instanceMethod yX12_recall : Cond) ∈ Om := ot_102 _ (List.mem_of_getElem? (i := 22) rfl)
theorem om_2471 : (.selects RX12 yX12_recall yX12_recall : Cond) ∈ Om := ot_102 _ (List.mem_of_getElem? (i := 23) rfl)
theorem om_2472 : (.code yX11_about cX11_about 2 (some .int) : Cond) ∈ Om := ot_103 _ (List.mem_of_getElem? (i := 0) rfl)
theorem om_2473 : (.methodLink RL 311 yX11_about : Cond) ∈ Om := ot_103 _ (List.mem_of_getElem? (i := 1) rfl)
theorem om_2474 : (.instanceMethod yX11_about : Cond) ∈ Om := ot_103 _ (List.mem_of_getElem? (i := 2) rfl)
theorem om_2475 : (.selects RX11 yX11_about yX11_about : Cond) ∈ Om := ot_103 _ (List.mem_of_getElem? (i := 3) rfl)
theorem om_2476 : (.code yX12_about cX12_about 4 (some .int) : Cond) ∈ Om := ot_103 _ (List.mem_of_getElem? (i := 4) rfl)
theorem om_2477 : (.methodLink RL 314 yX12_about : Cond) ∈ Om := ot_103 _ (List.mem_of_getElem? (i := 5) rfl)
theorem om_2478 : (.instanceMethod yX12_about : Cond) ∈ Om := ot_103 _ (List.mem_of_getElem? (i := 6) rfl)
theorem om_2479 : (.selects RX12 yX12_about yX12_about : Cond) ∈ Om := ot_103 _ (List.mem_of_getElem? (i := 7) rfl)
theorem om_2480 : (.classLink RL 8 RX11 : Cond) ∈ Om := ot_103 _ (List.mem_of_getElem? (i := 8) rfl)
theorem om_2481 : (.instantiable RX11 18 : Cond) ∈ Om := ot_103 _ (List.mem_of_getElem? (i := 9) rfl)
theorem om_2482 : (.classLink RL 117 RX12 : Cond) ∈ Om := ot_103 _ (List.mem_of_getElem? (i := 10) rfl)
theorem om_2483 : (.instantiable RX12 150 : Cond) ∈ Om := ot_103 _ (List.mem_of_getElem? (i := 11) rfl)
theorem om_2484 : (.code yX11_init cX11_init 2 none : Cond) ∈ Om := ot_103 _ (List.mem_of_getElem? (i := 12) rfl)
theorem om_2485 : (.methodLink RL 116 yX11_init : Cond) ∈ Om := ot_103 _ (List.mem_of_getElem? (i := 13) rfl)
theorem om_2486 : (.instanceMethod yX11_init : Cond) ∈ Om := ot_103 _ (List.mem_of_getElem? (i := 14) rfl)
theorem om_2487 : (.code yX12_init cX12_init 2 none : Cond) ∈ Om := ot_103 _ (List.mem_of_getElem? (i := 15) rfl)
theorem om_2488 : (.methodLink RL 119 yX12_init : Cond) ∈ Om := ot_103 _ (List.mem_of_getElem? (i := 16) rfl)
theorem om_2489 : (.instanceMethod yX12_init : Cond) ∈ Om := ot_103 _ (List.mem_of_getElem? (i := 17) rfl)
theorem om_2490 : (.fieldLink RX0 35 "HeapWorks$Archive" "filled" "I" : Cond) ∈ Om := ot_103 _ (List.mem_of_getElem? (i := 18) rfl)
theorem om_2491 : (.fieldLink RX0 43 "HeapWorks$Picture" "things" "I" : Cond) ∈ Om := ot_103 _ (List.mem_of_getElem? (i := 19) rfl)
theorem om_2492 : (.fieldLink RX0 70 "HeapWorks$Picture" "roots" "I" : Cond) ∈ Om := ot_103 _ (List.mem_of_getElem? (i := 20) rfl)
theorem om_2493 : (.fieldLink RX0 73 "HeapWorks$Picture" "rootNumber" "[I" : Cond) ∈ Om := ot_103 _ (List.mem_of_getElem? (i := 21) rfl)
theorem om_2494 : (.fieldLink RX0 76 "HeapWorks$Picture" "rootThing" "[I" : Cond) ∈ Om := ot_103 _ (List.mem_of_getElem? (i := 22) rfl)
theorem om_2495 : (.fieldLink RX0 50 "HeapWorks$Picture" "object" "[I" : Cond) ∈ Om := ot_103 _ (List.mem_of_getElem? (i := 23) rfl)
theorem om_2496 : (.fieldLink RX0 53 "HeapWorks$Picture" "type" "[I" : Cond) ∈ Om := ot_104 _ (List.mem_of_getElem? (i := 0) rfl)
theorem om_2497 : (.fieldLink RX0 56 "HeapWorks$Picture" "length" "[I" : Cond) ∈ Om := ot_104 _ (List.mem_of_getElem? (i := 1) rfl)
theorem om_2498 : (.fieldLink RX0 59 "HeapWorks$Picture" "first" "[I" : Cond) ∈ Om := ot_104 _ (List.mem_of_getElem? (i := 2) rfl)
theorem om_2499 : (.fieldLink RX0 62 "HeapWorks$Picture" "value" "[J" : Cond) ∈ Om := ot_104 _ (List.mem_of_getElem? (i := 3) rfl)
theorem om_2500 : (.fieldLink RX0 66 "HeapWorks$Picture" "link" "[Z" : Cond) ∈ Om := ot_104 _ (List.mem_of_getElem? (i := 4) rfl)
theorem om_2501 : (.fieldLink RX5 82 "HeapWorks$Picture" "things" "I" : Cond) ∈ Om := ot_104 _ (List.mem_of_getElem? (i := 5) rfl)
theorem om_2502 : (.fieldLink RX0 98 "HeapWorks$Archive" "at" "I" : Cond) ∈ Om := ot_104 _ (List.mem_of_getElem? (i := 6) rfl)
theorem om_2503 : (.fieldLink RX0 95 "HeapWorks$Archive" "limit" "I" : Cond) ∈ Om := ot_104 _ (List.mem_of_getElem? (i := 7) rfl)
theorem om_2504 : (.fieldLink RX0 92 "HeapWorks$Archive" "begin" "I" : Cond) ∈ Om := ot_104 _ (List.mem_of_getElem? (i := 8) rfl)
theorem om_2505 : (.fieldLink RX0 134 "HeapWorks$Archive" "numberPlace" "I" : Cond) ∈ Om := ot_104 _ (List.mem_of_getElem? (i := 9) rfl)
theorem om_2506 : (.fieldLink RX0 101 "HeapWorks$Archive" "fault" "I" : Cond) ∈ Om := ot_104 _ (List.mem_of_getElem? (i := 10) rfl)
theorem om_2507 : (.fieldLink RX10 65 "HeapWorks$Types" "count" "I" : Cond) ∈ Om := ot_104 _ (List.mem_of_getElem? (i := 11) rfl)
theorem om_2508 : (.fieldLink RX0 155 "HeapWorks$Picture" "thingOf" "[I" : Cond) ∈ Om := ot_104 _ (List.mem_of_getElem? (i := 12) rfl)
theorem om_2509 : (.fieldLink RX5 86 "HeapWorks$Picture" "roots" "I" : Cond) ∈ Om := ot_104 _ (List.mem_of_getElem? (i := 13) rfl)
theorem om_2510 : (.fieldLink RX0 197 "HeapWorks$Archive" "logSize" "I" : Cond) ∈ Om := ot_104 _ (List.mem_of_getElem? (i := 14) rfl)
theorem om_2511 : (.fieldLink RX0 206 "HeapWorks$Archive" "records" "I" : Cond) ∈ Om := ot_104 _ (List.mem_of_getElem? (i := 15) rfl)
theorem om_2512 : (.fieldLink RX1 38 "HeapWorks$Picture" "things" "I" : Cond) ∈ Om := ot_104 _ (List.mem_of_getElem? (i := 16) rfl)
theorem om_2513 : (.fieldLink RX1 50 "HeapWorks$FactBook" "things" "I" : Cond) ∈ Om := ot_104 _ (List.mem_of_getElem? (i := 17) rfl)
theorem om_2514 : (.fieldLink RX1 80 "HeapWorks$Picture" "first" "[I" : Cond) ∈ Om := ot_104 _ (List.mem_of_getElem? (i := 18) rfl)
theorem om_2515 : (.fieldLink RX1 83 "HeapWorks$Picture" "link" "[Z" : Cond) ∈ Om := ot_104 _ (List.mem_of_getElem? (i := 19) rfl)
theorem om_2516 : (.fieldLink RX1 87 "HeapWorks$Picture" "value" "[J" : Cond) ∈ Om := ot_104 _ (List.mem_of_getElem? (i := 20) rfl)
theorem om_2517 : (.fieldLink RX1 34 "HeapWorks$FactBook" "text" "LHeapWorks$RuleText;" : Cond) ∈ Om := ot_104 _ (List.mem_of_getElem? (i := 21) rfl)
theorem om_2518 : (.fieldLink RX1 73 "HeapWorks$RuleText" "rules" "I" : Cond) ∈ Om := ot_104 _ (List.mem_of_getElem? (i := 22) rfl)
theorem om_2519 : (.fieldLink RX1 96 "HeapWorks$RuleText" "bodyCount" "[I" : Cond) ∈ Om := ot_104 _ (List.mem_of_getElem? (i := 23) rfl)
theorem om_2520 : (.fieldLink RX1 99 "HeapWorks$RuleText" "bodyRelation" "[I" : Cond) ∈ Om := ot_105 _ (List.mem_of_getElem? (i := 0) rfl)
theorem om_2521 : (.fieldLink RX1 102 "HeapWorks$Picture" "type" "[I" : Cond) ∈ Om := ot_105 _ (List.mem_of_getElem? (i := 1) rfl)
theorem om_2522 : (.fieldLink RX1 105 "HeapWorks$RuleText" "bodyName" "[J" : Cond) ∈ Om := ot_105 _ (List.mem_of_getElem? (i := 2) rfl)
theorem om_2523 : (.fieldLink RX1 68 "HeapWorks$FactBook" "changed" "Z" : Cond) ∈ Om := ot_105 _ (List.mem_of_getElem? (i := 3) rfl)
theorem om_2524 : (.fieldLink RX1 51 "HeapWorks$FactBook" "full" "J" : Cond) ∈ Om := ot_105 _ (List.mem_of_getElem? (i := 4) rfl)
theorem om_2525 : (.fieldLink RX1 130 "HeapWorks$RuleText" "bodyA" "[I" : Cond) ∈ Om := ot_105 _ (List.mem_of_getElem? (i := 5) rfl)
theorem om_2526 : (.fieldLink RX1 133 "HeapWorks$RuleText" "bodyB" "[I" : Cond) ∈ Om := ot_105 _ (List.mem_of_getElem? (i := 6) rfl)
theorem om_2527 : (.fieldLink RX1 118 "HeapWorks$RuleText" "variableCount" "[I" : Cond) ∈ Om := ot_105 _ (List.mem_of_getElem? (i := 7) rfl)
theorem om_2528 : (.fieldLink RX1 121 "HeapWorks$RuleText" "headA" "[I" : Cond) ∈ Om := ot_105 _ (List.mem_of_getElem? (i := 8) rfl)
theorem om_2529 : (.fieldLink RX1 127 "HeapWorks$RuleText" "headRelation" "[I" : Cond) ∈ Om := ot_105 _ (List.mem_of_getElem? (i := 9) rfl)
theorem om_2530 : (.fieldLink RX1 124 "HeapWorks$RuleText" "headB" "[I" : Cond) ∈ Om := ot_105 _ (List.mem_of_getElem? (i := 10) rfl)
theorem om_2531 : (.fieldLink RX2 47 "HeapWorks$Heap" "made" "I" : Cond) ∈ Om := ot_105 _ (List.mem_of_getElem? (i := 11) rfl)
theorem om_2532 : (.fieldLink RX2 62 "HeapWorks$Heap" "slots" "I" : Cond) ∈ Om := ot_105 _ (List.mem_of_getElem? (i := 12) rfl)
theorem om_2533 : (.fieldLink RX2 75 "HeapWorks$Heap" "there" "I" : Cond) ∈ Om := ot_105 _ (List.mem_of_getElem? (i := 13) rfl)
theorem om_2534 : (.fieldLink RX2 89 "HeapWorks$Heap" "rootCount" "I" : Cond) ∈ Om := ot_105 _ (List.mem_of_getElem? (i := 14) rfl)
theorem om_2535 : (.fieldLink RX2 106 "HeapWorks$Types" "fieldLink" "[I" : Cond) ∈ Om := ot_105 _ (List.mem_of_getElem? (i := 15) rfl)
theorem om_2536 : (.fieldLink RX3 41 "HeapWorks$Heap" "first" "[I" : Cond) ∈ Om := ot_105 _ (List.mem_of_getElem? (i := 16) rfl)
theorem om_2537 : (.fieldLink RX3 46 "HeapWorks$Heap" "value" "[J" : Cond) ∈ Om := ot_105 _ (List.mem_of_getElem? (i := 17) rfl)
theorem om_2538 : (.fieldLink RX3 116 "HeapWorks$Journal" "undoStart" "I" : Cond) ∈ Om := ot_105 _ (List.mem_of_getElem? (i := 18) rfl)
theorem om_2539 : (.fieldLink RX3 119 "HeapWorks$Journal" "undoCount" "I" : Cond) ∈ Om := ot_105 _ (List.mem_of_getElem? (i := 19) rfl)
theorem om_2540 : (.fieldLink RX3 85 "HeapWorks$Journal" "writes" "I" : Cond) ∈ Om := ot_105 _ (List.mem_of_getElem? (i := 20) rfl)
theorem om_2541 : (.fieldLink RX3 53 "HeapWorks$Journal" "watches" "I" : Cond) ∈ Om := ot_105 _ (List.mem_of_getElem? (i := 21) rfl)
theorem om_2542 : (.fieldLink RX3 59 "HeapWorks$Types" "fieldStatic" "[Z" : Cond) ∈ Om := ot_105 _ (List.mem_of_getElem? (i := 22) rfl)
theorem om_2543 : (.fieldLink RX3 122 "HeapWorks$Types" "fieldKind" "[I" : Cond) ∈ Om := ot_105 _ (List.mem_of_getElem? (i := 23) rfl)
theorem om_2544 : (.fieldLink RX3 63 "HeapWorks$Types" "fieldPlace" "[I" : Cond) ∈ Om := ot_106 _ (List.mem_of_getElem? (i := 0) rfl)
theorem om_2545 : (.fieldLink RX3 66 "HeapWorks$Heap" "type" "[I" : Cond) ∈ Om := ot_106 _ (List.mem_of_getElem? (i := 1) rfl)
theorem om_2546 : (.fieldLink RX3 88 "HeapWorks$Heap" "statics" "[J" : Cond) ∈ Om := ot_106 _ (List.mem_of_getElem? (i := 2) rfl)
theorem om_2547 : (.fieldLink RX3 91 "HeapWorks$Heap" "made" "I" : Cond) ∈ Om := ot_106 _ (List.mem_of_getElem? (i := 3) rfl)
theorem om_2548 : (.fieldLink RX3 98 "HeapWorks$Heap" "link" "[Z" : Cond) ∈ Om := ot_106 _ (List.mem_of_getElem? (i := 4) rfl)
theorem om_2549 : (.fieldLink RX4 67 "HeapWorks$Machine" "top" "I" : Cond) ∈ Om := ot_106 _ (List.mem_of_getElem? (i := 5) rfl)
theorem om_2550 : (.fieldLink RX4 86 "HeapWorks$Program" "usesHolders" "Z" : Cond) ∈ Om := ot_106 _ (List.mem_of_getElem? (i := 6) rfl)
theorem om_2551 : (.fieldLink RX4 100 "HeapWorks$Program" "usesKept" "Z" : Cond) ∈ Om := ot_106 _ (List.mem_of_getElem? (i := 7) rfl)
theorem om_2552 : (.fieldLink RX4 75 "HeapWorks$Machine" "program" "LHeapWorks$Program;" : Cond) ∈ Om := ot_106 _ (List.mem_of_getElem? (i := 8) rfl)
theorem om_2553 : (.fieldLink RX4 107 "HeapWorks$Program" "steps" "I" : Cond) ∈ Om := ot_106 _ (List.mem_of_getElem? (i := 9) rfl)
theorem om_2554 : (.fieldLink RX4 83 "HeapWorks$Machine" "meter" "I" : Cond) ∈ Om := ot_106 _ (List.mem_of_getElem? (i := 10) rfl)
theorem om_2555 : (.fieldLink RX4 114 "HeapWorks$Program" "op" "[I" : Cond) ∈ Om := ot_106 _ (List.mem_of_getElem? (i := 11) rfl)
theorem om_2556 : (.fieldLink RX4 260 "HeapWorks$Program" "target" "[I" : Cond) ∈ Om := ot_106 _ (List.mem_of_getElem? (i := 12) rfl)
theorem om_2557 : (.fieldLink RX4 145 "HeapWorks$Program" "frame" "[I" : Cond) ∈ Om := ot_106 _ (List.mem_of_getElem? (i := 13) rfl)
theorem om_2558 : (.fieldLink RX4 79 "HeapWorks$Machine" "picture" "LHeapWorks$Picture;" : Cond) ∈ Om := ot_106 _ (List.mem_of_getElem? (i := 14) rfl)
theorem om_2559 : (.fieldLink RX4 194 "HeapWorks$Picture" "link" "[Z" : Cond) ∈ Om := ot_106 _ (List.mem_of_getElem? (i := 15) rfl)
theorem om_2560 : (.fieldLink RX4 197 "HeapWorks$Picture" "value" "[J" : Cond) ∈ Om := ot_106 _ (List.mem_of_getElem? (i := 16) rfl)
theorem om_2561 : (.fieldLink RX4 90 "HeapWorks$Picture" "shape" "LHeapWorks$Shape;" : Cond) ∈ Om := ot_106 _ (List.mem_of_getElem? (i := 17) rfl)
theorem om_2562 : (.fieldLink RX4 245 "HeapWorks$Shape" "holderThing" "[I" : Cond) ∈ Om := ot_106 _ (List.mem_of_getElem? (i := 18) rfl)
theorem om_2563 : (.fieldLink RX4 160 "HeapWorks$Picture" "type" "[I" : Cond) ∈ Om := ot_106 _ (List.mem_of_getElem? (i := 19) rfl)
theorem om_2564 : (.fieldLink RX4 142 "HeapWorks$Picture" "things" "I" : Cond) ∈ Om := ot_106 _ (List.mem_of_getElem? (i := 20) rfl)
theorem om_2565 : (.fieldLink RX4 191 "HeapWorks$Picture" "first" "[I" : Cond) ∈ Om := ot_106 _ (List.mem_of_getElem? (i := 21) rfl)
theorem om_2566 : (.fieldLink RX4 121 "HeapWorks$Program" "detail" "[J" : Cond) ∈ Om := ot_106 _ (List.mem_of_getElem? (i := 22) rfl)
theorem om_2567 : (.fieldLink RX4 277 "HeapWorks$Machine" "rowCount" "I" : Cond) ∈ Om := ot_106 _ (List.mem_of_getElem? (i := 23) rfl)
theorem om_2568 : (.fieldLink RX4 230 "HeapWorks$Types" "count" "I" : Cond) ∈ Om := ot_107 _ (List.mem_of_getElem? (i := 0) rfl)
theorem om_2569 : (.fieldLink RX4 233 "HeapWorks$Types" "name" "[J" : Cond) ∈ Om := ot_107 _ (List.mem_of_getElem? (i := 1) rfl)
theorem om_2570 : (.fieldLink RX4 236 "HeapWorks$Shape" "holderFirst" "[I" : Cond) ∈ Om := ot_107 _ (List.mem_of_getElem? (i := 2) rfl)
theorem om_2571 : (.fieldLink RX4 168 "HeapWorks$Picture" "length" "[I" : Cond) ∈ Om := ot_107 _ (List.mem_of_getElem? (i := 3) rfl)
theorem om_2572 : (.fieldLink RX4 174 "HeapWorks$Shape" "kept" "[I" : Cond) ∈ Om := ot_107 _ (List.mem_of_getElem? (i := 4) rfl)
theorem om_2573 : (.fieldLink RX4 177 "HeapWorks$Picture" "depth" "[I" : Cond) ∈ Om := ot_107 _ (List.mem_of_getElem? (i := 5) rfl)
theorem om_2574 : (.fieldLink RX8 60 "HeapWorks$Shape" "known" "I" : Cond) ∈ Om := ot_107 _ (List.mem_of_getElem? (i := 6) rfl)
theorem om_2575 : (.fieldLink RX8 64 "HeapWorks$Picture" "things" "I" : Cond) ∈ Om := ot_107 _ (List.mem_of_getElem? (i := 7) rfl)
theorem om_2576 : (.fieldLink RX8 104 "HeapWorks$Picture" "type" "[I" : Cond) ∈ Om := ot_107 _ (List.mem_of_getElem? (i := 8) rfl)
theorem om_2577 : (.fieldLink RX8 107 "HeapWorks$Picture" "length" "[I" : Cond) ∈ Om := ot_107 _ (List.mem_of_getElem? (i := 9) rfl)
theorem om_2578 : (.fieldLink RX8 73 "HeapWorks$Picture" "roots" "I" : Cond) ∈ Om := ot_107 _ (List.mem_of_getElem? (i := 10) rfl)
theorem om_2579 : (.fieldLink RX8 79 "HeapWorks$Picture" "first" "[I" : Cond) ∈ Om := ot_107 _ (List.mem_of_getElem? (i := 11) rfl)
theorem om_2580 : (.fieldLink RX8 82 "HeapWorks$Picture" "link" "[Z" : Cond) ∈ Om := ot_107 _ (List.mem_of_getElem? (i := 12) rfl)
theorem om_2581 : (.fieldLink RX8 86 "HeapWorks$Picture" "value" "[J" : Cond) ∈ Om := ot_107 _ (List.mem_of_getElem? (i := 13) rfl)
theorem om_2582 : (.fieldLink RX8 76 "HeapWorks$Picture" "rootThing" "[I" : Cond) ∈ Om := ot_107 _ (List.mem_of_getElem? (i := 14) rfl)
theorem om_2583 : (.fieldLink RX8 92 "HeapWorks$Picture" "rootNumber" "[I" : Cond) ∈ Om := ot_107 _ (List.mem_of_getElem? (i := 15) rfl)
theorem om_2584 : (.fieldLink RX5 98 "HeapWorks$Heap" "rootCount" "I" : Cond) ∈ Om := ot_107 _ (List.mem_of_getElem? (i := 16) rfl)
theorem om_2585 : (.fieldLink RX5 107 "HeapWorks$Heap" "types" "LHeapWorks$Types;" : Cond) ∈ Om := ot_107 _ (List.mem_of_getElem? (i := 17) rfl)
theorem om_2586 : (.fieldLink RX5 152 "HeapWorks$Heap" "first" "[I" : Cond) ∈ Om := ot_107 _ (List.mem_of_getElem? (i := 18) rfl)
theorem om_2587 : (.fieldLink RX5 153 "HeapWorks$Heap" "value" "[J" : Cond) ∈ Om := ot_107 _ (List.mem_of_getElem? (i := 19) rfl)
theorem om_2588 : (.fieldLink RX5 154 "HeapWorks$Heap" "link" "[Z" : Cond) ∈ Om := ot_107 _ (List.mem_of_getElem? (i := 20) rfl)
theorem om_2589 : (.fieldLink RX5 138 "HeapWorks$Heap" "type" "[I" : Cond) ∈ Om := ot_107 _ (List.mem_of_getElem? (i := 21) rfl)
theorem om_2590 : (.fieldLink RX5 139 "HeapWorks$Heap" "length" "[I" : Cond) ∈ Om := ot_107 _ (List.mem_of_getElem? (i := 22) rfl)
theorem om_2591 : (.fieldLink RX5 121 "HeapWorks$Heap" "statics" "[J" : Cond) ∈ Om := ot_107 _ (List.mem_of_getElem? (i := 23) rfl)
theorem om_2592 : (.fieldLink RX5 101 "HeapWorks$Heap" "roots" "[I" : Cond) ∈ Om := ot_108 _ (List.mem_of_getElem? (i := 0) rfl)
theorem om_2593 : (.fieldLink RX5 159 "HeapWorks$Shape" "holderFirst" "[I" : Cond) ∈ Om := ot_108 _ (List.mem_of_getElem? (i := 1) rfl)
theorem om_2594 : (.fieldLink RX5 165 "HeapWorks$Shape" "dominator" "[I" : Cond) ∈ Om := ot_108 _ (List.mem_of_getElem? (i := 2) rfl)
theorem om_2595 : (.fieldLink RX5 168 "HeapWorks$Shape" "kept" "[I" : Cond) ∈ Om := ot_108 _ (List.mem_of_getElem? (i := 3) rfl)
theorem om_2596 : (.fieldLink RX5 171 "HeapWorks$Shape" "dominated" "[I" : Cond) ∈ Om := ot_108 _ (List.mem_of_getElem? (i := 4) rfl)
theorem om_2597 : (.fieldLink RX8 142 "HeapWorks$Shape" "rings" "I" : Cond) ∈ Om := ot_108 _ (List.mem_of_getElem? (i := 5) rfl)
theorem om_2598 : (.fieldLink RX5 179 "HeapWorks$Shape" "ring" "[I" : Cond) ∈ Om := ot_108 _ (List.mem_of_getElem? (i := 6) rfl)
theorem om_2599 : (.fieldLink RX5 182 "HeapWorks$Shape" "rings" "I" : Cond) ∈ Om := ot_108 _ (List.mem_of_getElem? (i := 7) rfl)
theorem om_2600 : (.fieldLink RX8 159 "HeapWorks$Shape" "twins" "I" : Cond) ∈ Om := ot_108 _ (List.mem_of_getElem? (i := 8) rfl)
theorem om_2601 : (.fieldLink RX5 192 "HeapWorks$Shape" "twin" "[I" : Cond) ∈ Om := ot_108 _ (List.mem_of_getElem? (i := 9) rfl)
theorem om_2602 : (.fieldLink RX5 195 "HeapWorks$Shape" "twins" "I" : Cond) ∈ Om := ot_108 _ (List.mem_of_getElem? (i := 10) rfl)
theorem om_2603 : (.fieldLink RX5 89 "HeapWorks$Picture" "lostCount" "I" : Cond) ∈ Om := ot_108 _ (List.mem_of_getElem? (i := 11) rfl)
theorem om_2604 : (.fieldLink RX9 69 "HeapWorks$Tape" "at" "I" : Cond) ∈ Om := ot_108 _ (List.mem_of_getElem? (i := 12) rfl)
theorem om_2605 : (.fieldLink RX9 49 "HeapWorks$Tape" "size" "I" : Cond) ∈ Om := ot_108 _ (List.mem_of_getElem? (i := 13) rfl)
theorem om_2606 : (.fieldLink RX9 78 "HeapWorks$Tape" "place" "I" : Cond) ∈ Om := ot_108 _ (List.mem_of_getElem? (i := 14) rfl)
theorem om_2607 : (.fieldLink RX9 81 "HeapWorks$Tape" "code" "J" : Cond) ∈ Om := ot_108 _ (List.mem_of_getElem? (i := 15) rfl)
theorem om_2608 : (.fieldLink RX9 75 "HeapWorks$Tape" "word" "I" : Cond) ∈ Om := ot_108 _ (List.mem_of_getElem? (i := 16) rfl)
theorem om_2609 : (.fieldLink RX9 85 "HeapWorks$Tape" "next" "I" : Cond) ∈ Om := ot_108 _ (List.mem_of_getElem? (i := 17) rfl)
theorem om_2610 : (.fieldLink RX6 45 "HeapWorks$Tape" "word" "I" : Cond) ∈ Om := ot_108 _ (List.mem_of_getElem? (i := 18) rfl)
theorem om_2611 : (.fieldLink RX6 87 "HeapWorks$Program" "nodes" "I" : Cond) ∈ Om := ot_108 _ (List.mem_of_getElem? (i := 19) rfl)
theorem om_2612 : (.fieldLink RX6 111 "HeapWorks$Tape" "place" "I" : Cond) ∈ Om := ot_108 _ (List.mem_of_getElem? (i := 20) rfl)
theorem om_2613 : (.fieldLink RX6 72 "HeapWorks$Program" "steps" "I" : Cond) ∈ Om := ot_108 _ (List.mem_of_getElem? (i := 21) rfl)
theorem om_2614 : (.fieldLink RX6 118 "HeapWorks$Tape" "code" "J" : Cond) ∈ Om := ot_108 _ (List.mem_of_getElem? (i := 22) rfl)
theorem om_2615 : (.fieldLink RX6 99 "HeapWorks$Program" "waits" "I" : Cond) ∈ Om := ot_108 _ (List.mem_of_getElem? (i := 23) rfl)
theorem om_2616 : (.fieldLink RX6 90 "HeapWorks$Program" "nest" "I" : Cond) ∈ Om := ot_109 _ (List.mem_of_getElem? (i := 0) rfl)
theorem om_2617 : (.fieldLink RX6 96 "HeapWorks$Program" "scopes" "I" : Cond) ∈ Om := ot_109 _ (List.mem_of_getElem? (i := 1) rfl)
theorem om_2618 : (.fieldLink RX6 62 "HeapWorks$Program" "itKnown" "Z" : Cond) ∈ Om := ot_109 _ (List.mem_of_getElem? (i := 2) rfl)
theorem om_2619 : (.fieldLink RX6 93 "HeapWorks$Program" "folds" "I" : Cond) ∈ Om := ot_109 _ (List.mem_of_getElem? (i := 3) rfl)
theorem om_2620 : (.fieldLink RX7 86 "HeapWorks$Tape" "word" "I" : Cond) ∈ Om := ot_109 _ (List.mem_of_getElem? (i := 4) rfl)
theorem om_2621 : (.fieldLink RX7 100 "HeapWorks$Tape" "code" "J" : Cond) ∈ Om := ot_109 _ (List.mem_of_getElem? (i := 5) rfl)
theorem om_2622 : (.fieldLink RX7 70 "HeapWorks$RuleText" "rules" "I" : Cond) ∈ Om := ot_109 _ (List.mem_of_getElem? (i := 6) rfl)
theorem om_2623 : (.fieldLink RX7 93 "HeapWorks$Tape" "place" "I" : Cond) ∈ Om := ot_109 _ (List.mem_of_getElem? (i := 7) rfl)
theorem om_2624 : (.fieldLink RX7 74 "HeapWorks$RuleText" "relations" "I" : Cond) ∈ Om := ot_109 _ (List.mem_of_getElem? (i := 8) rfl)
theorem om_2625 : (.fieldLink RX7 110 "HeapWorks$RuleText" "variables" "I" : Cond) ∈ Om := ot_109 _ (List.mem_of_getElem? (i := 9) rfl)
theorem om_2626 : (.fieldLink RX7 113 "HeapWorks$RuleText" "bound" "I" : Cond) ∈ Om := ot_109 _ (List.mem_of_getElem? (i := 10) rfl)
theorem om_2627 : (.fieldLink RX11 110 "HeapWorks$Tape" "size" "I" : Cond) ∈ Om := ot_109 _ (List.mem_of_getElem? (i := 11) rfl)
theorem om_2628 : (.fieldLink RX11 113 "HeapWorks$Tape" "bytes" "[I" : Cond) ∈ Om := ot_109 _ (List.mem_of_getElem? (i := 12) rfl)
theorem om_2629 : (.fieldLink RX11 130 "HeapWorks$Types" "count" "I" : Cond) ∈ Om := ot_109 _ (List.mem_of_getElem? (i := 13) rfl)
theorem om_2630 : (.fieldLink RX11 147 "HeapWorks$Types" "used" "[Z" : Cond) ∈ Om := ot_109 _ (List.mem_of_getElem? (i := 14) rfl)
theorem om_2631 : (.fieldLink RX11 151 "HeapWorks$Types" "fieldCount" "[I" : Cond) ∈ Om := ot_109 _ (List.mem_of_getElem? (i := 15) rfl)
theorem om_2632 : (.fieldLink RX11 161 "HeapWorks$Heap" "statics" "[J" : Cond) ∈ Om := ot_109 _ (List.mem_of_getElem? (i := 16) rfl)
theorem om_2633 : (.fieldLink RX11 169 "HeapWorks$Types" "parent" "[I" : Cond) ∈ Om := ot_109 _ (List.mem_of_getElem? (i := 17) rfl)
theorem om_2634 : (.fieldLink RX11 172 "HeapWorks$Types" "loader" "[I" : Cond) ∈ Om := ot_109 _ (List.mem_of_getElem? (i := 18) rfl)
theorem om_2635 : (.fieldLink RX11 175 "HeapWorks$Types" "slotCount" "[I" : Cond) ∈ Om := ot_109 _ (List.mem_of_getElem? (i := 19) rfl)
theorem om_2636 : (.fieldLink RX11 182 "HeapWorks$Types" "staticCount" "[I" : Cond) ∈ Om := ot_109 _ (List.mem_of_getElem? (i := 20) rfl)
theorem om_2637 : (.fieldLink RX11 192 "HeapWorks$Types" "fieldKind" "[I" : Cond) ∈ Om := ot_109 _ (List.mem_of_getElem? (i := 21) rfl)
theorem om_2638 : (.fieldLink RX11 195 "HeapWorks$Types" "fieldLink" "[I" : Cond) ∈ Om := ot_109 _ (List.mem_of_getElem? (i := 22) rfl)
theorem om_2639 : (.fieldLink RX11 198 "HeapWorks$Types" "fieldStatic" "[Z" : Cond) ∈ Om := ot_109 _ (List.mem_of_getElem? (i := 23) rfl)
theorem om_2640 : (.fieldLink RX11 201 "HeapWorks$Types" "fieldPlace" "[I" : Cond) ∈ Om := ot_110 _ (List.mem_of_getElem? (i := 0) rfl)
theorem om_2641 : (.fieldLink RX11 228 "HeapWorks$Heap" "rootCount" "I" : Cond) ∈ Om := ot_110 _ (List.mem_of_getElem? (i := 1) rfl)
theorem om_2642 : (.fieldLink RX11 231 "HeapWorks$Heap" "roots" "[I" : Cond) ∈ Om := ot_110 _ (List.mem_of_getElem? (i := 2) rfl)
theorem om_2643 : (.fieldLink RX11 241 "HeapWorks$Heap" "type" "[I" : Cond) ∈ Om := ot_110 _ (List.mem_of_getElem? (i := 3) rfl)
theorem om_2644 : (.fieldLink RX11 327 "HeapWorks" "promiseCount" "I" : Cond) ∈ Om := ot_110 _ (List.mem_of_getElem? (i := 4) rfl)
theorem om_2645 : (.fieldLink RX11 268 "HeapWorks$Heap" "value" "[J" : Cond) ∈ Om := ot_110 _ (List.mem_of_getElem? (i := 5) rfl)
theorem om_2646 : (.fieldLink RX11 271 "HeapWorks$Heap" "first" "[I" : Cond) ∈ Om := ot_110 _ (List.mem_of_getElem? (i := 6) rfl)
theorem om_2647 : (.fieldLink RX11 274 "HeapWorks$Heap" "length" "[I" : Cond) ∈ Om := ot_110 _ (List.mem_of_getElem? (i := 7) rfl)
theorem om_2648 : (.fieldLink RX11 301 "HeapWorks$Journal" "writes" "I" : Cond) ∈ Om := ot_110 _ (List.mem_of_getElem? (i := 8) rfl)
theorem om_2649 : (.fieldLink RX11 307 "HeapWorks$Types" "apart" "[Z" : Cond) ∈ Om := ot_110 _ (List.mem_of_getElem? (i := 9) rfl)
theorem om_2650 : (.fieldLink RX11 310 "HeapWorks$Journal" "watches" "I" : Cond) ∈ Om := ot_110 _ (List.mem_of_getElem? (i := 10) rfl)
theorem om_2651 : (.fieldLink RX11 317 "HeapWorks$Journal" "rowCount" "[I" : Cond) ∈ Om := ot_110 _ (List.mem_of_getElem? (i := 11) rfl)
theorem om_2652 : (.fieldLink RX11 334 "HeapWorks$Program" "fault" "I" : Cond) ∈ Om := ot_110 _ (List.mem_of_getElem? (i := 12) rfl)
theorem om_2653 : (.fieldLink RX11 337 "HeapWorks$Program" "place" "I" : Cond) ∈ Om := ot_110 _ (List.mem_of_getElem? (i := 13) rfl)
theorem om_2654 : (.fieldLink RX11 357 "HeapWorks$Picture" "things" "I" : Cond) ∈ Om := ot_110 _ (List.mem_of_getElem? (i := 14) rfl)
theorem om_2655 : (.fieldLink RX11 363 "HeapWorks$Picture" "object" "[I" : Cond) ∈ Om := ot_110 _ (List.mem_of_getElem? (i := 15) rfl)
theorem om_2656 : (.fieldLink RX11 366 "HeapWorks$Picture" "type" "[I" : Cond) ∈ Om := ot_110 _ (List.mem_of_getElem? (i := 16) rfl)
theorem om_2657 : (.fieldLink RX11 367 "HeapWorks$Picture" "length" "[I" : Cond) ∈ Om := ot_110 _ (List.mem_of_getElem? (i := 17) rfl)
theorem om_2658 : (.fieldLink RX11 368 "HeapWorks$Picture" "depth" "[I" : Cond) ∈ Om := ot_110 _ (List.mem_of_getElem? (i := 18) rfl)
theorem om_2659 : (.fieldLink RX11 371 "HeapWorks$Picture" "wayThing" "[I" : Cond) ∈ Om := ot_110 _ (List.mem_of_getElem? (i := 19) rfl)
theorem om_2660 : (.fieldLink RX11 374 "HeapWorks$Picture" "waySlot" "[I" : Cond) ∈ Om := ot_110 _ (List.mem_of_getElem? (i := 20) rfl)
theorem om_2661 : (.fieldLink RX11 395 "HeapWorks$Picture" "first" "[I" : Cond) ∈ Om := ot_110 _ (List.mem_of_getElem? (i := 21) rfl)
theorem om_2662 : (.fieldLink RX11 396 "HeapWorks$Picture" "value" "[J" : Cond) ∈ Om := ot_110 _ (List.mem_of_getElem? (i := 22) rfl)
theorem om_2663 : (.fieldLink RX11 397 "HeapWorks$Picture" "shape" "LHeapWorks$Shape;" : Cond) ∈ Om := ot_110 _ (List.mem_of_getElem? (i := 23) rfl)
theorem om_2664 : (.fieldLink RX11 401 "HeapWorks$Shape" "holderFirst" "[I" : Cond) ∈ Om := ot_111 _ (List.mem_of_getElem? (i := 0) rfl)
theorem om_2665 : (.fieldLink RX11 409 "HeapWorks$Shape" "holderSlot" "[I" : Cond) ∈ Om := ot_111 _ (List.mem_of_getElem? (i := 1) rfl)
theorem om_2666 : (.fieldLink RX11 406 "HeapWorks$Shape" "holderThing" "[I" : Cond) ∈ Om := ot_111 _ (List.mem_of_getElem? (i := 2) rfl)
theorem om_2667 : (.fieldLink RX11 439 "HeapWorks$Picture" "chosen" "[Z" : Cond) ∈ Om := ot_111 _ (List.mem_of_getElem? (i := 3) rfl)
theorem om_2668 : (.fieldLink RX11 445 "HeapWorks$Picture" "lostCount" "I" : Cond) ∈ Om := ot_111 _ (List.mem_of_getElem? (i := 4) rfl)
theorem om_2669 : (.fieldLink RX11 448 "HeapWorks$Picture" "lostThings" "[I" : Cond) ∈ Om := ot_111 _ (List.mem_of_getElem? (i := 5) rfl)
theorem om_2670 : (.fieldLink RX11 455 "HeapWorks" "grownCount" "I" : Cond) ∈ Om := ot_111 _ (List.mem_of_getElem? (i := 6) rfl)
theorem om_2671 : (.fieldLink RX11 470 "HeapWorks" "faultCode" "I" : Cond) ∈ Om := ot_111 _ (List.mem_of_getElem? (i := 7) rfl)
theorem om_2672 : (.fieldLink RX11 465 "HeapWorks$Machine" "rowCount" "I" : Cond) ∈ Om := ot_111 _ (List.mem_of_getElem? (i := 8) rfl)
theorem om_2673 : (.fieldLink RX11 479 "HeapWorks$Machine" "rowValue" "[J" : Cond) ∈ Om := ot_111 _ (List.mem_of_getElem? (i := 9) rfl)
theorem om_2674 : (.fieldLink RX11 476 "HeapWorks$Machine" "rowSort" "[I" : Cond) ∈ Om := ot_111 _ (List.mem_of_getElem? (i := 10) rfl)
theorem om_2675 : (.fieldLink RX11 473 "HeapWorks$Machine" "rowThing" "[I" : Cond) ∈ Om := ot_111 _ (List.mem_of_getElem? (i := 11) rfl)
theorem om_2676 : (.fieldLink RX11 485 "HeapWorks$RuleText" "fault" "I" : Cond) ∈ Om := ot_111 _ (List.mem_of_getElem? (i := 12) rfl)
theorem om_2677 : (.fieldLink RX11 486 "HeapWorks$RuleText" "place" "I" : Cond) ∈ Om := ot_111 _ (List.mem_of_getElem? (i := 13) rfl)
theorem om_2678 : (.fieldLink RX11 491 "HeapWorks$RuleText" "relations" "I" : Cond) ∈ Om := ot_111 _ (List.mem_of_getElem? (i := 14) rfl)
theorem om_2679 : (.fieldLink RX11 495 "HeapWorks$RuleText" "arity" "[I" : Cond) ∈ Om := ot_111 _ (List.mem_of_getElem? (i := 15) rfl)
theorem om_2680 : (.fieldLink RX11 506 "HeapWorks$Archive" "buffer" "[I" : Cond) ∈ Om := ot_111 _ (List.mem_of_getElem? (i := 16) rfl)
theorem om_2681 : (.fieldLink RX11 519 "HeapWorks$Archive" "fault" "I" : Cond) ∈ Om := ot_111 _ (List.mem_of_getElem? (i := 17) rfl)
theorem om_2682 : (.fieldLink RX11 520 "HeapWorks$Archive" "place" "I" : Cond) ∈ Om := ot_111 _ (List.mem_of_getElem? (i := 18) rfl)
theorem om_2683 : (.fieldLink RX11 530 "HeapWorks$Archive" "records" "I" : Cond) ∈ Om := ot_111 _ (List.mem_of_getElem? (i := 19) rfl)
theorem om_2684 : (.fieldLink RX11 541 "HeapWorks$Heap" "there" "I" : Cond) ∈ Om := ot_111 _ (List.mem_of_getElem? (i := 20) rfl)
theorem om_2685 : (.fieldLink RX11 544 "HeapWorks$Heap" "slots" "I" : Cond) ∈ Om := ot_111 _ (List.mem_of_getElem? (i := 21) rfl)
theorem om_2686 : (.fieldLink RX11 547 "HeapWorks$Journal" "undoCount" "I" : Cond) ∈ Om := ot_111 _ (List.mem_of_getElem? (i := 22) rfl)
theorem om_2687 : (.fieldLink RX11 550 "HeapWorks$Archive" "logSize" "I" : Cond) ∈ Om := ot_111 _ (List.mem_of_getElem? (i := 23) rfl)
theorem om_2688 : (.fieldLink RX12 388 "HeapWorksModel" "thrown" "I" : Cond) ∈ Om := ot_112 _ (List.mem_of_getElem? (i := 0) rfl)
theorem om_2689 : (.fieldLink RX12 391 "HeapWorksModel" "taped" "I" : Cond) ∈ Om := ot_112 _ (List.mem_of_getElem? (i := 1) rfl)
theorem om_2690 : (.fieldLink RX12 413 "HeapWorksModel" "classes" "I" : Cond) ∈ Om := ot_112 _ (List.mem_of_getElem? (i := 2) rfl)
theorem om_2691 : (.fieldLink RX12 435 "HeapWorksModel" "objects" "I" : Cond) ∈ Om := ot_112 _ (List.mem_of_getElem? (i := 3) rfl)
theorem om_2692 : (.fieldLink RX12 452 "HeapWorksModel" "valuesUsed" "I" : Cond) ∈ Om := ot_112 _ (List.mem_of_getElem? (i := 4) rfl)
theorem om_2693 : (.fieldLink RX12 461 "HeapWorksModel" "slotsThere" "I" : Cond) ∈ Om := ot_112 _ (List.mem_of_getElem? (i := 5) rfl)
theorem om_2694 : (.fieldLink RX12 470 "HeapWorksModel" "toldMany" "I" : Cond) ∈ Om := ot_112 _ (List.mem_of_getElem? (i := 6) rfl)
theorem om_2695 : (.fieldLink RX12 479 "HeapWorksModel" "undos" "I" : Cond) ∈ Om := ot_112 _ (List.mem_of_getElem? (i := 7) rfl)
theorem om_2696 : (.fieldLink RX12 482 "HeapWorksModel" "writes" "I" : Cond) ∈ Om := ot_112 _ (List.mem_of_getElem? (i := 8) rfl)
theorem om_2697 : (.fieldLink RX12 485 "HeapWorksModel" "watches" "I" : Cond) ∈ Om := ot_112 _ (List.mem_of_getElem? (i := 9) rfl)
theorem om_2698 : (.fieldLink RX12 872 "HeapWorksModel" "promises" "I" : Cond) ∈ Om := ot_112 _ (List.mem_of_getElem? (i := 10) rfl)
theorem om_2699 : (.fieldLink RX12 522 "HeapWorksModel" "walkedMany" "I" : Cond) ∈ Om := ot_112 _ (List.mem_of_getElem? (i := 11) rfl)
theorem om_2700 : (.fieldLink RX12 869 "HeapWorksModel" "asksKept" "Z" : Cond) ∈ Om := ot_112 _ (List.mem_of_getElem? (i := 12) rfl)
theorem om_2701 : (.fieldLink RX12 581 "HeapWorksModel" "queued" "I" : Cond) ∈ Om := ot_112 _ (List.mem_of_getElem? (i := 13) rfl)
theorem om_2702 : (.fieldLink RX12 782 "HeapWorksModel" "spent" "Z" : Cond) ∈ Om := ot_112 _ (List.mem_of_getElem? (i := 14) rfl)
theorem om_2703 : (.fieldLink RX12 826 "HeapWorksModel" "over" "I" : Cond) ∈ Om := ot_112 _ (List.mem_of_getElem? (i := 15) rfl)
theorem om_2704 : (.fieldLink RX12 810 "HeapWorksModel" "itThing" "I" : Cond) ∈ Om := ot_112 _ (List.mem_of_getElem? (i := 16) rfl)
theorem om_2705 : (.fieldLink RX12 779 "HeapWorksModel" "meter" "I" : Cond) ∈ Om := ot_112 _ (List.mem_of_getElem? (i := 17) rfl)
theorem om_2706 : (.fieldLink RX12 785 "HeapWorksModel" "sort" "I" : Cond) ∈ Om := ot_112 _ (List.mem_of_getElem? (i := 18) rfl)
theorem om_2707 : (.fieldLink RX12 788 "HeapWorksModel" "value" "J" : Cond) ∈ Om := ot_112 _ (List.mem_of_getElem? (i := 19) rfl)
theorem om_2708 : (.fieldLink RX12 846 "HeapWorksModel" "level" "I" : Cond) ∈ Om := ot_112 _ (List.mem_of_getElem? (i := 20) rfl)
theorem om_2709 : (.fieldLink RX12 612 "HeapWorksModel" "grownMany" "I" : Cond) ∈ Om := ot_112 _ (List.mem_of_getElem? (i := 21) rfl)
theorem om_2710 : (.fieldLink RX12 625 "HeapWorksModel" "stop" "I" : Cond) ∈ Om := ot_112 _ (List.mem_of_getElem? (i := 22) rfl)
theorem om_2711 : (.fieldLink RX12 631 "HeapWorksModel" "at0" "I" : Cond) ∈ Om := ot_112 _ (List.mem_of_getElem? (i := 23) rfl)
theorem om_2712 : (.fieldLink RX12 637 "HeapWorksModel" "from0" "I" : Cond) ∈ Om := ot_113 _ (List.mem_of_getElem? (i := 0) rfl)
theorem om_2713 : (.fieldLink RX12 640 "HeapWorksModel" "word" "J" : Cond) ∈ Om := ot_113 _ (List.mem_of_getElem? (i := 1) rfl)
theorem om_2714 : (.fieldLink RX12 644 "HeapWorksModel" "kind" "I" : Cond) ∈ Om := ot_113 _ (List.mem_of_getElem? (i := 2) rfl)
theorem om_2715 : (.fieldLink RX12 673 "HeapWorksModel" "nodeBase" "I" : Cond) ∈ Om := ot_113 _ (List.mem_of_getElem? (i := 3) rfl)
theorem om_2716 : (.fieldLink RX12 670 "HeapWorksModel" "nodes" "I" : Cond) ∈ Om := ot_113 _ (List.mem_of_getElem? (i := 4) rfl)
theorem om_2717 : (.fieldLink RX12 676 "HeapWorksModel" "nested" "I" : Cond) ∈ Om := ot_113 _ (List.mem_of_getElem? (i := 5) rfl)
theorem om_2718 : (.fieldLink RX12 761 "HeapWorksModel" "known" "I" : Cond) ∈ Om := ot_113 _ (List.mem_of_getElem? (i := 6) rfl)
theorem om_2719 : (.fieldLink RX12 764 "HeapWorksModel" "hasIt" "Z" : Cond) ∈ Om := ot_113 _ (List.mem_of_getElem? (i := 7) rfl)
theorem om_2720 : (.fieldLink RX12 628 "HeapWorksModel" "stopAt" "I" : Cond) ∈ Om := ot_113 _ (List.mem_of_getElem? (i := 8) rfl)
theorem om_2721 : (.fieldLink RX12 776 "HeapWorksModel" "fault" "I" : Cond) ∈ Om := ot_113 _ (List.mem_of_getElem? (i := 9) rfl)
theorem om_2722 : (.fieldLink RX12 852 "HeapWorksModel" "answers" "I" : Cond) ∈ Om := ot_113 _ (List.mem_of_getElem? (i := 10) rfl)
theorem om_2723 : (.fieldLink RX12 888 "HeapWorksModel" "ruleVariables" "I" : Cond) ∈ Om := ot_113 _ (List.mem_of_getElem? (i := 11) rfl)
theorem om_2724 : (.fieldLink RX12 905 "HeapWorksModel" "relations" "I" : Cond) ∈ Om := ot_113 _ (List.mem_of_getElem? (i := 12) rfl)
theorem om_2725 : (.fieldLink RX12 908 "HeapWorksModel" "rules" "I" : Cond) ∈ Om := ot_113 _ (List.mem_of_getElem? (i := 13) rfl)
theorem om_2726 : (.fieldLink RX12 894 "HeapWorksModel" "readA" "I" : Cond) ∈ Om := ot_113 _ (List.mem_of_getElem? (i := 14) rfl)
theorem om_2727 : (.fieldLink RX12 897 "HeapWorksModel" "readB" "I" : Cond) ∈ Om := ot_113 _ (List.mem_of_getElem? (i := 15) rfl)
theorem om_2728 : (.fieldLink RX12 933 "HeapWorksModel" "grows" "Z" : Cond) ∈ Om := ot_113 _ (List.mem_of_getElem? (i := 16) rfl)
theorem om_2729 : (.fieldLink RX12 953 "HeapWorksModel" "rowEnd" "I" : Cond) ∈ Om := ot_113 _ (List.mem_of_getElem? (i := 17) rfl)
theorem om_2730 : (.fieldLink RX12 975 "HeapWorksModel" "rowAt" "I" : Cond) ∈ Om := ot_113 _ (List.mem_of_getElem? (i := 18) rfl)
theorem om_2731 : (.fieldLink RX12 978 "HeapWorksModel" "numberAt" "I" : Cond) ∈ Om := ot_113 _ (List.mem_of_getElem? (i := 19) rfl)
theorem om_2732 : (.fieldLink RX12 991 "HeapWorksModel" "readSlots" "I" : Cond) ∈ Om := ot_113 _ (List.mem_of_getElem? (i := 20) rfl)
theorem om_2733 : (.fieldLink RX12 1030 "HeapWorksModel" "records" "I" : Cond) ∈ Om := ot_113 _ (List.mem_of_getElem? (i := 21) rfl)
theorem om_2734 : (.fieldLink RX12 1027 "HeapWorksModel" "logged" "I" : Cond) ∈ Om := ot_113 _ (List.mem_of_getElem? (i := 22) rfl)
theorem om_2735 : (.fieldLink RX0 104 "HeapWorks$Archive" "place" "I" : Cond) ∈ Om := ot_113 _ (List.mem_of_getElem? (i := 23) rfl)
theorem om_2736 : (.fieldLink RX5 92 "HeapWorks$Shape" "known" "I" : Cond) ∈ Om := ot_114 _ (List.mem_of_getElem? (i := 0) rfl)
theorem om_2737 : (.fieldLink RX6 75 "HeapWorks$Program" "fault" "I" : Cond) ∈ Om := ot_114 _ (List.mem_of_getElem? (i := 1) rfl)
theorem om_2738 : (.fieldLink RX6 78 "HeapWorks$Program" "place" "I" : Cond) ∈ Om := ot_114 _ (List.mem_of_getElem? (i := 2) rfl)
theorem om_2739 : (.fieldLink RX6 81 "HeapWorks$Program" "usesHolders" "Z" : Cond) ∈ Om := ot_114 _ (List.mem_of_getElem? (i := 3) rfl)
theorem om_2740 : (.fieldLink RX6 84 "HeapWorks$Program" "usesKept" "Z" : Cond) ∈ Om := ot_114 _ (List.mem_of_getElem? (i := 4) rfl)
theorem om_2741 : (.fieldLink RX7 77 "HeapWorks$RuleText" "fault" "I" : Cond) ∈ Om := ot_114 _ (List.mem_of_getElem? (i := 5) rfl)
theorem om_2742 : (.fieldLink RX7 80 "HeapWorks$RuleText" "place" "I" : Cond) ∈ Om := ot_114 _ (List.mem_of_getElem? (i := 6) rfl)
theorem oi_X0 : ∀ w ∈ u_ws RX0 TX0 15, w ∈ Om := ot_115
theorem oi_X1 : ∀ w ∈ u_ws RX1 TX1 10, w ∈ Om := ot_116
theorem oi_X10 : ∀ w ∈ u_ws RX10 TX10 18, w ∈ Om := ot_117
theorem oi_X11 : ∀ w ∈ u_ws RX11 TX11 18, w ∈ Om := ot_118
theorem oi_X12 : ∀ w ∈ u_ws RX12 TX12 150, w ∈ Om := ot_119
theorem oi_X2 : ∀ w ∈ u_ws RX2 TX2 14, w ∈ Om := ot_120
theorem oi_X3 : ∀ w ∈ u_ws RX3 TX3 13, w ∈ Om := ot_121
theorem oi_X4 : ∀ w ∈ u_ws RX4 TX4 21, w ∈ Om := ot_122
theorem oi_X5 : ∀ w ∈ u_ws RX5 TX5 21, w ∈ Om := ot_123
theorem oi_X6 : ∀ w ∈ u_ws RX6 TX6 19, w ∈ Om := ot_124
theorem oi_X7 : ∀ w ∈ u_ws RX7 TX7 21, w ∈ Om := ot_125
theorem oi_X8 : ∀ w ∈ u_ws RX8 TX8 18, w ∈ Om := ot_126
theorem oi_X9 : ∀ w ∈ u_ws RX9 TX9 12, w ∈ Om := ot_127
theorem ox_X11_122 : ∀ w ∈ (vx_at0 RX11 122 "java/lang/IndexOutOfBoundsException" ["java/lang/RuntimeException", "java/lang/Exception"]).filter goodWord, w ∈ Om := ot_128
theorem ox_X11_129 : ∀ w ∈ (vx_at0 RX11 129 "java/lang/IllegalArgumentException" ["java/lang/RuntimeException", "java/lang/Exception"]).filter goodWord, w ∈ Om := ot_129
theorem ox_X11_139 : ∀ w ∈ (vx_at0 RX11 139 "java/lang/IllegalStateException" ["java/lang/RuntimeException", "java/lang/Exception"]).filter goodWord, w ∈ Om := ot_130
theorem ox_X11_224 : ∀ w ∈ (vx_at0 RX11 224 "java/util/NoSuchElementException" ["java/lang/RuntimeException", "java/lang/Exception"]).filter goodWord, w ∈ Om := ot_131
theorem fl_X0_35 : jFL vwCl Om RX0 35 3 2 := ⟨RX0, TX0, 15, rfl, oi_X0, by decide, om_2490⟩
theorem fl_X0_19 : jFL vwCl Om RX0 19 3 1 := ⟨RX0, TX0, 15, rfl, oi_X0, by decide, om_1830⟩
theorem fl_X0_43 : jFL vwCl Om RX0 43 8 0 := ⟨RX5, TX5, 21, rfl, oi_X5, by decide, om_2491⟩
theorem fl_X0_70 : jFL vwCl Om RX0 70 8 11 := ⟨RX5, TX5, 21, rfl, oi_X5, by decide, om_2492⟩
theorem fl_X0_73 : jFL vwCl Om RX0 73 8 12 := ⟨RX5, TX5, 21, rfl, oi_X5, by decide, om_2493⟩
theorem fl_X0_76 : jFL vwCl Om RX0 76 8 13 := ⟨RX5, TX5, 21, rfl, oi_X5, by decide, om_2494⟩
theorem fl_X0_50 : jFL vwCl Om RX0 50 8 1 := ⟨RX5, TX5, 21, rfl, oi_X5, by decide, om_2495⟩
theorem fl_X0_53 : jFL vwCl Om RX0 53 8 2 := ⟨RX5, TX5, 21, rfl, oi_X5, by decide, om_2496⟩
theorem fl_X0_56 : jFL vwCl Om RX0 56 8 3 := ⟨RX5, TX5, 21, rfl, oi_X5, by decide, om_2497⟩
theorem fl_X0_59 : jFL vwCl Om RX0 59 8 4 := ⟨RX5, TX5, 21, rfl, oi_X5, by decide, om_2498⟩
theorem fl_X0_62 : jFL vwCl Om RX0 62 8 9 := ⟨RX5, TX5, 21, rfl, oi_X5, by decide, om_2499⟩
theorem fl_X0_66 : jFL vwCl Om RX0 66 8 10 := ⟨RX5, TX5, 21, rfl, oi_X5, by decide, om_2500⟩
theorem fl_X5_82 : jFL vwCl Om RX5 82 8 0 := ⟨RX5, TX5, 21, rfl, oi_X5, by decide, om_2501⟩
theorem fl_X5_78 : jFL vwCl Om RX5 78 8 20 := ⟨RX5, TX5, 21, rfl, oi_X5, by decide, om_1742⟩
theorem fl_X5_35 : jFL vwCl Om RX5 35 8 8 := ⟨RX5, TX5, 21, rfl, oi_X5, by decide, om_1710⟩
theorem fl_X5_11 : jFL vwCl Om RX5 11 8 1 := ⟨RX5, TX5, 21, rfl, oi_X5, by decide, om_1703⟩
theorem fl_X5_58 : jFL vwCl Om RX5 58 8 14 := ⟨RX5, TX5, 21, rfl, oi_X5, by decide, om_1716⟩
theorem fl_X0_98 : jFL vwCl Om RX0 98 3 9 := ⟨RX0, TX0, 15, rfl, oi_X0, by decide, om_2502⟩
theorem fl_X0_95 : jFL vwCl Om RX0 95 3 8 := ⟨RX0, TX0, 15, rfl, oi_X0, by decide, om_2503⟩
theorem fl_X0_26 : jFL vwCl Om RX0 26 3 6 := ⟨RX0, TX0, 15, rfl, oi_X0, by decide, om_1832⟩
theorem fl_X0_92 : jFL vwCl Om RX0 92 3 7 := ⟨RX0, TX0, 15, rfl, oi_X0, by decide, om_2504⟩
theorem fl_X0_134 : jFL vwCl Om RX0 134 3 10 := ⟨RX0, TX0, 15, rfl, oi_X0, by decide, om_2505⟩
theorem fl_X0_101 : jFL vwCl Om RX0 101 3 13 := ⟨RX0, TX0, 15, rfl, oi_X0, by decide, om_2506⟩
theorem fl_X0_29 : jFL vwCl Om RX0 29 3 11 := ⟨RX0, TX0, 15, rfl, oi_X0, by decide, om_1833⟩
theorem fl_X0_11 : jFL vwCl Om RX0 11 3 0 := ⟨RX0, TX0, 15, rfl, oi_X0, by decide, om_1829⟩
theorem fl_X10_35 : jFL vwCl Om RX10 35 13 8 := ⟨RX10, TX10, 18, rfl, oi_X10, by decide, om_1651⟩
theorem fl_X5_15 : jFL vwCl Om RX5 15 8 2 := ⟨RX5, TX5, 21, rfl, oi_X5, by decide, om_1704⟩
theorem fl_X5_18 : jFL vwCl Om RX5 18 8 3 := ⟨RX5, TX5, 21, rfl, oi_X5, by decide, om_1705⟩
theorem fl_X5_21 : jFL vwCl Om RX5 21 8 4 := ⟨RX5, TX5, 21, rfl, oi_X5, by decide, om_1706⟩
theorem fl_X10_65 : jFL vwCl Om RX10 65 13 0 := ⟨RX10, TX10, 18, rfl, oi_X10, by decide, om_2507⟩
theorem fl_X0_155 : jFL vwCl Om RX0 155 8 8 := ⟨RX5, TX5, 21, rfl, oi_X5, by decide, om_2508⟩
theorem fl_X10_59 : jFL vwCl Om RX10 59 13 16 := ⟨RX10, TX10, 18, rfl, oi_X10, by decide, om_1659⟩
theorem fl_X0_32 : jFL vwCl Om RX0 32 3 12 := ⟨RX0, TX0, 15, rfl, oi_X0, by decide, om_1834⟩
theorem fl_X10_62 : jFL vwCl Om RX10 62 13 17 := ⟨RX10, TX10, 18, rfl, oi_X10, by decide, om_1660⟩
theorem fl_X10_19 : jFL vwCl Om RX10 19 13 3 := ⟨RX10, TX10, 18, rfl, oi_X10, by decide, om_1645⟩
theorem fl_X5_52 : jFL vwCl Om RX5 52 8 12 := ⟨RX5, TX5, 21, rfl, oi_X5, by decide, om_1714⟩
theorem fl_X5_86 : jFL vwCl Om RX5 86 8 11 := ⟨RX5, TX5, 21, rfl, oi_X5, by decide, om_2509⟩
theorem fl_X5_55 : jFL vwCl Om RX5 55 8 13 := ⟨RX5, TX5, 21, rfl, oi_X5, by decide, om_1715⟩
theorem fl_X5_48 : jFL vwCl Om RX5 48 8 10 := ⟨RX5, TX5, 21, rfl, oi_X5, by decide, om_1713⟩
theorem fl_X5_44 : jFL vwCl Om RX5 44 8 9 := ⟨RX5, TX5, 21, rfl, oi_X5, by decide, om_1712⟩
theorem fl_X5_27 : jFL vwCl Om RX5 27 8 6 := ⟨RX5, TX5, 21, rfl, oi_X5, by decide, om_1708⟩
theorem fl_X5_30 : jFL vwCl Om RX5 30 8 7 := ⟨RX5, TX5, 21, rfl, oi_X5, by decide, om_1709⟩
theorem fl_X5_24 : jFL vwCl Om RX5 24 8 5 := ⟨RX5, TX5, 21, rfl, oi_X5, by decide, om_1707⟩
theorem fl_X0_197 : jFL vwCl Om RX0 197 3 4 := ⟨RX0, TX0, 15, rfl, oi_X0, by decide, om_2510⟩
theorem fl_X0_23 : jFL vwCl Om RX0 23 3 3 := ⟨RX0, TX0, 15, rfl, oi_X0, by decide, om_1831⟩
theorem fl_X0_206 : jFL vwCl Om RX0 206 3 5 := ⟨RX0, TX0, 15, rfl, oi_X0, by decide, om_2511⟩
theorem fl_X1_38 : jFL vwCl Om RX1 38 8 0 := ⟨RX5, TX5, 21, rfl, oi_X5, by decide, om_2512⟩
theorem fl_X1_50 : jFL vwCl Om RX1 50 4 1 := ⟨RX1, TX1, 10, rfl, oi_X1, by decide, om_2513⟩
theorem fl_X1_15 : jFL vwCl Om RX1 15 4 3 := ⟨RX1, TX1, 10, rfl, oi_X1, by decide, om_1817⟩
theorem fl_X1_19 : jFL vwCl Om RX1 19 4 4 := ⟨RX1, TX1, 10, rfl, oi_X1, by decide, om_1818⟩
theorem fl_X1_22 : jFL vwCl Om RX1 22 4 5 := ⟨RX1, TX1, 10, rfl, oi_X1, by decide, om_1819⟩
theorem fl_X1_80 : jFL vwCl Om RX1 80 8 4 := ⟨RX5, TX5, 21, rfl, oi_X5, by decide, om_2514⟩
theorem fl_X1_83 : jFL vwCl Om RX1 83 8 10 := ⟨RX5, TX5, 21, rfl, oi_X5, by decide, om_2515⟩
theorem fl_X1_87 : jFL vwCl Om RX1 87 8 9 := ⟨RX5, TX5, 21, rfl, oi_X5, by decide, om_2516⟩
theorem fl_X1_34 : jFL vwCl Om RX1 34 4 8 := ⟨RX1, TX1, 10, rfl, oi_X1, by decide, om_2517⟩
theorem fl_X1_73 : jFL vwCl Om RX1 73 10 3 := ⟨RX7, TX7, 21, rfl, oi_X7, by decide, om_2518⟩
theorem fl_X1_96 : jFL vwCl Om RX1 96 10 8 := ⟨RX7, TX7, 21, rfl, oi_X7, by decide, om_2519⟩
theorem fl_X1_27 : jFL vwCl Om RX1 27 4 6 := ⟨RX1, TX1, 10, rfl, oi_X1, by decide, om_1820⟩
theorem fl_X1_99 : jFL vwCl Om RX1 99 10 9 := ⟨RX7, TX7, 21, rfl, oi_X7, by decide, om_2520⟩
theorem fl_X1_9 : jFL vwCl Om RX1 9 4 0 := ⟨RX1, TX1, 10, rfl, oi_X1, by decide, om_1816⟩
theorem fl_X1_102 : jFL vwCl Om RX1 102 8 2 := ⟨RX5, TX5, 21, rfl, oi_X5, by decide, om_2521⟩
theorem fl_X1_105 : jFL vwCl Om RX1 105 10 12 := ⟨RX7, TX7, 21, rfl, oi_X7, by decide, om_2522⟩
theorem fl_X10_11 : jFL vwCl Om RX10 11 13 1 := ⟨RX10, TX10, 18, rfl, oi_X10, by decide, om_1643⟩
theorem fl_X1_68 : jFL vwCl Om RX1 68 4 9 := ⟨RX1, TX1, 10, rfl, oi_X1, by decide, om_2523⟩
theorem fl_X1_51 : jFL vwCl Om RX1 51 4 2 := ⟨RX1, TX1, 10, rfl, oi_X1, by decide, om_2524⟩
theorem fl_X1_130 : jFL vwCl Om RX1 130 10 10 := ⟨RX7, TX7, 21, rfl, oi_X7, by decide, om_2525⟩
theorem fl_X1_133 : jFL vwCl Om RX1 133 10 11 := ⟨RX7, TX7, 21, rfl, oi_X7, by decide, om_2526⟩
theorem fl_X1_30 : jFL vwCl Om RX1 30 4 7 := ⟨RX1, TX1, 10, rfl, oi_X1, by decide, om_1821⟩
theorem fl_X1_118 : jFL vwCl Om RX1 118 10 7 := ⟨RX7, TX7, 21, rfl, oi_X7, by decide, om_2527⟩
theorem fl_X1_121 : jFL vwCl Om RX1 121 10 5 := ⟨RX7, TX7, 21, rfl, oi_X7, by decide, om_2528⟩
theorem fl_X1_127 : jFL vwCl Om RX1 127 10 4 := ⟨RX7, TX7, 21, rfl, oi_X7, by decide, om_2529⟩
theorem fl_X1_124 : jFL vwCl Om RX1 124 10 6 := ⟨RX7, TX7, 21, rfl, oi_X7, by decide, om_2530⟩
theorem fl_X2_47 : jFL vwCl Om RX2 47 5 1 := ⟨RX2, TX2, 14, rfl, oi_X2, by decide, om_2531⟩
theorem fl_X2_15 : jFL vwCl Om RX2 15 5 4 := ⟨RX2, TX2, 14, rfl, oi_X2, by decide, om_1669⟩
theorem fl_X2_9 : jFL vwCl Om RX2 9 5 0 := ⟨RX2, TX2, 14, rfl, oi_X2, by decide, om_1668⟩
theorem fl_X2_19 : jFL vwCl Om RX2 19 5 5 := ⟨RX2, TX2, 14, rfl, oi_X2, by decide, om_1670⟩
theorem fl_X2_62 : jFL vwCl Om RX2 62 5 3 := ⟨RX2, TX2, 14, rfl, oi_X2, by decide, om_2532⟩
theorem fl_X2_75 : jFL vwCl Om RX2 75 5 2 := ⟨RX2, TX2, 14, rfl, oi_X2, by decide, om_2533⟩
theorem fl_X2_22 : jFL vwCl Om RX2 22 5 6 := ⟨RX2, TX2, 14, rfl, oi_X2, by decide, om_1671⟩
theorem fl_X10_22 : jFL vwCl Om RX10 22 13 4 := ⟨RX10, TX10, 18, rfl, oi_X10, by decide, om_1647⟩
theorem fl_X2_29 : jFL vwCl Om RX2 29 5 8 := ⟨RX2, TX2, 14, rfl, oi_X2, by decide, om_1673⟩
theorem fl_X2_25 : jFL vwCl Om RX2 25 5 7 := ⟨RX2, TX2, 14, rfl, oi_X2, by decide, om_1672⟩
theorem fl_X2_89 : jFL vwCl Om RX2 89 5 11 := ⟨RX2, TX2, 14, rfl, oi_X2, by decide, om_2534⟩
theorem fl_X2_38 : jFL vwCl Om RX2 38 5 10 := ⟨RX2, TX2, 14, rfl, oi_X2, by decide, om_1675⟩
theorem fl_X10_50 : jFL vwCl Om RX10 50 13 13 := ⟨RX10, TX10, 18, rfl, oi_X10, by decide, om_1656⟩
theorem fl_X10_44 : jFL vwCl Om RX10 44 13 11 := ⟨RX10, TX10, 18, rfl, oi_X10, by decide, om_1654⟩
theorem fl_X2_35 : jFL vwCl Om RX2 35 5 9 := ⟨RX2, TX2, 14, rfl, oi_X2, by decide, om_1674⟩
theorem fl_X2_106 : jFL vwCl Om RX2 106 13 12 := ⟨RX10, TX10, 18, rfl, oi_X10, by decide, om_2535⟩
theorem fl_X2_44 : jFL vwCl Om RX2 44 5 13 := ⟨RX2, TX2, 14, rfl, oi_X2, by decide, om_1677⟩
theorem fl_X2_41 : jFL vwCl Om RX2 41 5 12 := ⟨RX2, TX2, 14, rfl, oi_X2, by decide, om_1676⟩
theorem fl_X10_26 : jFL vwCl Om RX10 26 13 5 := ⟨RX10, TX10, 18, rfl, oi_X10, by decide, om_1648⟩
theorem fl_X3_41 : jFL vwCl Om RX3 41 5 6 := ⟨RX2, TX2, 14, rfl, oi_X2, by decide, om_2536⟩
theorem fl_X3_46 : jFL vwCl Om RX3 46 5 7 := ⟨RX2, TX2, 14, rfl, oi_X2, by decide, om_2537⟩
theorem fl_X3_116 : jFL vwCl Om RX3 116 6 5 := ⟨RX3, TX3, 13, rfl, oi_X3, by decide, om_2538⟩
theorem fl_X3_119 : jFL vwCl Om RX3 119 6 6 := ⟨RX3, TX3, 13, rfl, oi_X3, by decide, om_2539⟩
theorem fl_X3_15 : jFL vwCl Om RX3 15 6 2 := ⟨RX3, TX3, 13, rfl, oi_X3, by decide, om_1686⟩
theorem fl_X3_85 : jFL vwCl Om RX3 85 6 1 := ⟨RX3, TX3, 13, rfl, oi_X3, by decide, om_2540⟩
theorem fl_X3_19 : jFL vwCl Om RX3 19 6 3 := ⟨RX3, TX3, 13, rfl, oi_X3, by decide, om_1687⟩
theorem fl_X3_22 : jFL vwCl Om RX3 22 6 4 := ⟨RX3, TX3, 13, rfl, oi_X3, by decide, om_1688⟩
theorem fl_X3_53 : jFL vwCl Om RX3 53 6 7 := ⟨RX3, TX3, 13, rfl, oi_X3, by decide, om_2541⟩
theorem fl_X3_26 : jFL vwCl Om RX3 26 6 8 := ⟨RX3, TX3, 13, rfl, oi_X3, by decide, om_1689⟩
theorem fl_X3_29 : jFL vwCl Om RX3 29 6 9 := ⟨RX3, TX3, 13, rfl, oi_X3, by decide, om_1690⟩
theorem fl_X3_9 : jFL vwCl Om RX3 9 6 0 := ⟨RX3, TX3, 13, rfl, oi_X3, by decide, om_1685⟩
theorem fl_X3_59 : jFL vwCl Om RX3 59 13 13 := ⟨RX10, TX10, 18, rfl, oi_X10, by decide, om_2542⟩
theorem fl_X3_122 : jFL vwCl Om RX3 122 13 11 := ⟨RX10, TX10, 18, rfl, oi_X10, by decide, om_2543⟩
theorem fl_X3_32 : jFL vwCl Om RX3 32 6 10 := ⟨RX3, TX3, 13, rfl, oi_X3, by decide, om_1691⟩
theorem fl_X3_35 : jFL vwCl Om RX3 35 6 11 := ⟨RX3, TX3, 13, rfl, oi_X3, by decide, om_1692⟩
theorem fl_X3_38 : jFL vwCl Om RX3 38 6 12 := ⟨RX3, TX3, 13, rfl, oi_X3, by decide, om_1693⟩
theorem fl_X3_63 : jFL vwCl Om RX3 63 13 14 := ⟨RX10, TX10, 18, rfl, oi_X10, by decide, om_2544⟩
theorem fl_X3_66 : jFL vwCl Om RX3 66 5 4 := ⟨RX2, TX2, 14, rfl, oi_X2, by decide, om_2545⟩
theorem fl_X3_88 : jFL vwCl Om RX3 88 5 9 := ⟨RX2, TX2, 14, rfl, oi_X2, by decide, om_2546⟩
theorem fl_X3_91 : jFL vwCl Om RX3 91 5 1 := ⟨RX2, TX2, 14, rfl, oi_X2, by decide, om_2547⟩
theorem fl_X3_98 : jFL vwCl Om RX3 98 5 8 := ⟨RX2, TX2, 14, rfl, oi_X2, by decide, om_2548⟩
theorem fl_X4_67 : jFL vwCl Om RX4 67 7 6 := ⟨RX4, TX4, 21, rfl, oi_X4, by decide, om_2549⟩
theorem fl_X4_19 : jFL vwCl Om RX4 19 7 4 := ⟨RX4, TX4, 21, rfl, oi_X4, by decide, om_1766⟩
theorem fl_X4_23 : jFL vwCl Om RX4 23 7 5 := ⟨RX4, TX4, 21, rfl, oi_X4, by decide, om_1767⟩
theorem fl_X4_86 : jFL vwCl Om RX4 86 9 8 := ⟨RX6, TX6, 19, rfl, oi_X6, by decide, om_2550⟩
theorem fl_X4_100 : jFL vwCl Om RX4 100 9 9 := ⟨RX6, TX6, 19, rfl, oi_X6, by decide, om_2551⟩
theorem fl_X4_75 : jFL vwCl Om RX4 75 7 2 := ⟨RX4, TX4, 21, rfl, oi_X4, by decide, om_2552⟩
theorem fl_X4_107 : jFL vwCl Om RX4 107 9 5 := ⟨RX6, TX6, 19, rfl, oi_X6, by decide, om_2553⟩
theorem fl_X4_83 : jFL vwCl Om RX4 83 7 3 := ⟨RX4, TX4, 21, rfl, oi_X4, by decide, om_2554⟩
theorem fl_X4_114 : jFL vwCl Om RX4 114 9 1 := ⟨RX6, TX6, 19, rfl, oi_X6, by decide, om_2555⟩
theorem fl_X4_260 : jFL vwCl Om RX4 260 9 3 := ⟨RX6, TX6, 19, rfl, oi_X6, by decide, om_2556⟩
theorem fl_X4_145 : jFL vwCl Om RX4 145 9 2 := ⟨RX6, TX6, 19, rfl, oi_X6, by decide, om_2557⟩
theorem fl_X4_27 : jFL vwCl Om RX4 27 7 7 := ⟨RX4, TX4, 21, rfl, oi_X4, by decide, om_1768⟩
theorem fl_X4_33 : jFL vwCl Om RX4 33 7 9 := ⟨RX4, TX4, 21, rfl, oi_X4, by decide, om_1770⟩
theorem fl_X4_36 : jFL vwCl Om RX4 36 7 10 := ⟨RX4, TX4, 21, rfl, oi_X4, by decide, om_1771⟩
theorem fl_X4_79 : jFL vwCl Om RX4 79 7 1 := ⟨RX4, TX4, 21, rfl, oi_X4, by decide, om_2558⟩
theorem fl_X4_194 : jFL vwCl Om RX4 194 8 10 := ⟨RX5, TX5, 21, rfl, oi_X5, by decide, om_2559⟩
theorem fl_X4_197 : jFL vwCl Om RX4 197 8 9 := ⟨RX5, TX5, 21, rfl, oi_X5, by decide, om_2560⟩
theorem fl_X4_90 : jFL vwCl Om RX4 90 8 20 := ⟨RX5, TX5, 21, rfl, oi_X5, by decide, om_2561⟩
theorem fl_X4_245 : jFL vwCl Om RX4 245 11 3 := ⟨RX8, TX8, 18, rfl, oi_X8, by decide, om_2562⟩
theorem fl_X4_160 : jFL vwCl Om RX4 160 8 2 := ⟨RX5, TX5, 21, rfl, oi_X5, by decide, om_2563⟩
theorem fl_X4_30 : jFL vwCl Om RX4 30 7 8 := ⟨RX4, TX4, 21, rfl, oi_X4, by decide, om_1769⟩
theorem fl_X4_39 : jFL vwCl Om RX4 39 7 11 := ⟨RX4, TX4, 21, rfl, oi_X4, by decide, om_1772⟩
theorem fl_X4_49 : jFL vwCl Om RX4 49 7 14 := ⟨RX4, TX4, 21, rfl, oi_X4, by decide, om_1775⟩
theorem fl_X4_142 : jFL vwCl Om RX4 142 8 0 := ⟨RX5, TX5, 21, rfl, oi_X5, by decide, om_2564⟩
theorem fl_X4_191 : jFL vwCl Om RX4 191 8 4 := ⟨RX5, TX5, 21, rfl, oi_X5, by decide, om_2565⟩
theorem fl_X4_52 : jFL vwCl Om RX4 52 7 15 := ⟨RX4, TX4, 21, rfl, oi_X4, by decide, om_1776⟩
theorem fl_X4_55 : jFL vwCl Om RX4 55 7 16 := ⟨RX4, TX4, 21, rfl, oi_X4, by decide, om_1777⟩
theorem fl_X4_121 : jFL vwCl Om RX4 121 9 4 := ⟨RX6, TX6, 19, rfl, oi_X6, by decide, om_2566⟩
theorem fl_X4_45 : jFL vwCl Om RX4 45 7 13 := ⟨RX4, TX4, 21, rfl, oi_X4, by decide, om_1774⟩
theorem fl_X4_42 : jFL vwCl Om RX4 42 7 12 := ⟨RX4, TX4, 21, rfl, oi_X4, by decide, om_1773⟩
theorem fl_X4_277 : jFL vwCl Om RX4 277 7 20 := ⟨RX4, TX4, 21, rfl, oi_X4, by decide, om_2567⟩
theorem fl_X4_58 : jFL vwCl Om RX4 58 7 17 := ⟨RX4, TX4, 21, rfl, oi_X4, by decide, om_1778⟩
theorem fl_X4_61 : jFL vwCl Om RX4 61 7 18 := ⟨RX4, TX4, 21, rfl, oi_X4, by decide, om_1779⟩
theorem fl_X4_64 : jFL vwCl Om RX4 64 7 19 := ⟨RX4, TX4, 21, rfl, oi_X4, by decide, om_1780⟩
theorem fl_X4_11 : jFL vwCl Om RX4 11 7 0 := ⟨RX4, TX4, 21, rfl, oi_X4, by decide, om_1765⟩
theorem fl_X4_230 : jFL vwCl Om RX4 230 13 0 := ⟨RX10, TX10, 18, rfl, oi_X10, by decide, om_2568⟩
theorem fl_X4_233 : jFL vwCl Om RX4 233 13 1 := ⟨RX10, TX10, 18, rfl, oi_X10, by decide, om_2569⟩
theorem fl_X4_236 : jFL vwCl Om RX4 236 11 2 := ⟨RX8, TX8, 18, rfl, oi_X8, by decide, om_2570⟩
theorem fl_X4_168 : jFL vwCl Om RX4 168 8 3 := ⟨RX5, TX5, 21, rfl, oi_X5, by decide, om_2571⟩
theorem fl_X10_38 : jFL vwCl Om RX10 38 13 9 := ⟨RX10, TX10, 18, rfl, oi_X10, by decide, om_1652⟩
theorem fl_X4_174 : jFL vwCl Om RX4 174 11 6 := ⟨RX8, TX8, 18, rfl, oi_X8, by decide, om_2572⟩
theorem fl_X4_177 : jFL vwCl Om RX4 177 8 5 := ⟨RX5, TX5, 21, rfl, oi_X5, by decide, om_2573⟩
theorem fl_X10_56 : jFL vwCl Om RX10 56 13 15 := ⟨RX10, TX10, 18, rfl, oi_X10, by decide, om_1658⟩
theorem fl_X8_60 : jFL vwCl Om RX8 60 11 1 := ⟨RX8, TX8, 18, rfl, oi_X8, by decide, om_2574⟩
theorem fl_X8_27 : jFL vwCl Om RX8 27 11 5 := ⟨RX8, TX8, 18, rfl, oi_X8, by decide, om_1728⟩
theorem fl_X8_64 : jFL vwCl Om RX8 64 8 0 := ⟨RX5, TX5, 21, rfl, oi_X5, by decide, om_2575⟩
theorem fl_X8_30 : jFL vwCl Om RX8 30 11 6 := ⟨RX8, TX8, 18, rfl, oi_X8, by decide, om_1729⟩
theorem fl_X8_33 : jFL vwCl Om RX8 33 11 7 := ⟨RX8, TX8, 18, rfl, oi_X8, by decide, om_1730⟩
theorem fl_X8_9 : jFL vwCl Om RX8 9 11 0 := ⟨RX8, TX8, 18, rfl, oi_X8, by decide, om_1724⟩
theorem fl_X8_104 : jFL vwCl Om RX8 104 8 2 := ⟨RX5, TX5, 21, rfl, oi_X5, by decide, om_2576⟩
theorem fl_X8_107 : jFL vwCl Om RX8 107 8 3 := ⟨RX5, TX5, 21, rfl, oi_X5, by decide, om_2577⟩
theorem fl_X8_17 : jFL vwCl Om RX8 17 11 2 := ⟨RX8, TX8, 18, rfl, oi_X8, by decide, om_1725⟩
theorem fl_X8_21 : jFL vwCl Om RX8 21 11 3 := ⟨RX8, TX8, 18, rfl, oi_X8, by decide, om_1726⟩
theorem fl_X8_73 : jFL vwCl Om RX8 73 8 11 := ⟨RX5, TX5, 21, rfl, oi_X5, by decide, om_2578⟩
theorem fl_X8_79 : jFL vwCl Om RX8 79 8 4 := ⟨RX5, TX5, 21, rfl, oi_X5, by decide, om_2579⟩
theorem fl_X8_82 : jFL vwCl Om RX8 82 8 10 := ⟨RX5, TX5, 21, rfl, oi_X5, by decide, om_2580⟩
theorem fl_X8_86 : jFL vwCl Om RX8 86 8 9 := ⟨RX5, TX5, 21, rfl, oi_X5, by decide, om_2581⟩
theorem fl_X8_54 : jFL vwCl Om RX8 54 11 16 := ⟨RX8, TX8, 18, rfl, oi_X8, by decide, om_1737⟩
theorem fl_X8_24 : jFL vwCl Om RX8 24 11 4 := ⟨RX8, TX8, 18, rfl, oi_X8, by decide, om_1727⟩
theorem fl_X8_76 : jFL vwCl Om RX8 76 8 13 := ⟨RX5, TX5, 21, rfl, oi_X5, by decide, om_2582⟩
theorem fl_X8_92 : jFL vwCl Om RX8 92 8 12 := ⟨RX5, TX5, 21, rfl, oi_X5, by decide, om_2583⟩
theorem fl_X5_98 : jFL vwCl Om RX5 98 5 11 := ⟨RX2, TX2, 14, rfl, oi_X2, by decide, om_2584⟩
theorem fl_X5_107 : jFL vwCl Om RX5 107 5 0 := ⟨RX2, TX2, 14, rfl, oi_X2, by decide, om_2585⟩
theorem fl_X5_152 : jFL vwCl Om RX5 152 5 6 := ⟨RX2, TX2, 14, rfl, oi_X2, by decide, om_2586⟩
theorem fl_X5_153 : jFL vwCl Om RX5 153 5 7 := ⟨RX2, TX2, 14, rfl, oi_X2, by decide, om_2587⟩
theorem fl_X5_154 : jFL vwCl Om RX5 154 5 8 := ⟨RX2, TX2, 14, rfl, oi_X2, by decide, om_2588⟩
theorem fl_X5_138 : jFL vwCl Om RX5 138 5 4 := ⟨RX2, TX2, 14, rfl, oi_X2, by decide, om_2589⟩
theorem fl_X5_139 : jFL vwCl Om RX5 139 5 5 := ⟨RX2, TX2, 14, rfl, oi_X2, by decide, om_2590⟩
theorem fl_X5_121 : jFL vwCl Om RX5 121 5 9 := ⟨RX2, TX2, 14, rfl, oi_X2, by decide, om_2591⟩
theorem fl_X5_101 : jFL vwCl Om RX5 101 5 10 := ⟨RX2, TX2, 14, rfl, oi_X2, by decide, om_2592⟩
theorem fl_X5_159 : jFL vwCl Om RX5 159 11 2 := ⟨RX8, TX8, 18, rfl, oi_X8, by decide, om_2593⟩
theorem fl_X5_165 : jFL vwCl Om RX5 165 11 5 := ⟨RX8, TX8, 18, rfl, oi_X8, by decide, om_2594⟩
theorem fl_X5_168 : jFL vwCl Om RX5 168 11 6 := ⟨RX8, TX8, 18, rfl, oi_X8, by decide, om_2595⟩
theorem fl_X5_171 : jFL vwCl Om RX5 171 11 7 := ⟨RX8, TX8, 18, rfl, oi_X8, by decide, om_2596⟩
theorem fl_X8_45 : jFL vwCl Om RX8 45 11 13 := ⟨RX8, TX8, 18, rfl, oi_X8, by decide, om_1734⟩
theorem fl_X8_51 : jFL vwCl Om RX8 51 11 15 := ⟨RX8, TX8, 18, rfl, oi_X8, by decide, om_1736⟩
theorem fl_X8_36 : jFL vwCl Om RX8 36 11 8 := ⟨RX8, TX8, 18, rfl, oi_X8, by decide, om_1731⟩
theorem fl_X8_142 : jFL vwCl Om RX8 142 11 9 := ⟨RX8, TX8, 18, rfl, oi_X8, by decide, om_2597⟩
theorem fl_X8_42 : jFL vwCl Om RX8 42 11 12 := ⟨RX8, TX8, 18, rfl, oi_X8, by decide, om_1733⟩
theorem fl_X8_48 : jFL vwCl Om RX8 48 11 14 := ⟨RX8, TX8, 18, rfl, oi_X8, by decide, om_1735⟩
theorem fl_X5_179 : jFL vwCl Om RX5 179 11 8 := ⟨RX8, TX8, 18, rfl, oi_X8, by decide, om_2598⟩
theorem fl_X5_182 : jFL vwCl Om RX5 182 11 9 := ⟨RX8, TX8, 18, rfl, oi_X8, by decide, om_2599⟩
theorem fl_X8_57 : jFL vwCl Om RX8 57 11 17 := ⟨RX8, TX8, 18, rfl, oi_X8, by decide, om_1738⟩
theorem fl_X8_39 : jFL vwCl Om RX8 39 11 10 := ⟨RX8, TX8, 18, rfl, oi_X8, by decide, om_1732⟩
theorem fl_X8_159 : jFL vwCl Om RX8 159 11 11 := ⟨RX8, TX8, 18, rfl, oi_X8, by decide, om_2600⟩
theorem fl_X5_192 : jFL vwCl Om RX5 192 11 10 := ⟨RX8, TX8, 18, rfl, oi_X8, by decide, om_2601⟩
theorem fl_X5_195 : jFL vwCl Om RX5 195 11 11 := ⟨RX8, TX8, 18, rfl, oi_X8, by decide, om_2602⟩
theorem fl_X5_64 : jFL vwCl Om RX5 64 8 17 := ⟨RX5, TX5, 21, rfl, oi_X5, by decide, om_1718⟩
theorem fl_X5_89 : jFL vwCl Om RX5 89 8 16 := ⟨RX5, TX5, 21, rfl, oi_X5, by decide, om_2603⟩
theorem fl_X5_61 : jFL vwCl Om RX5 61 8 15 := ⟨RX5, TX5, 21, rfl, oi_X5, by decide, om_1717⟩
theorem fl_X5_70 : jFL vwCl Om RX5 70 8 19 := ⟨RX5, TX5, 21, rfl, oi_X5, by decide, om_1720⟩
theorem fl_X5_67 : jFL vwCl Om RX5 67 8 18 := ⟨RX5, TX5, 21, rfl, oi_X5, by decide, om_1719⟩
theorem fl_X6_9 : jFL vwCl Om RX6 9 9 0 := ⟨RX6, TX6, 19, rfl, oi_X6, by decide, om_1750⟩
theorem fl_X9_69 : jFL vwCl Om RX9 69 12 4 := ⟨RX9, TX9, 12, rfl, oi_X9, by decide, om_2604⟩
theorem fl_X9_49 : jFL vwCl Om RX9 49 12 1 := ⟨RX9, TX9, 12, rfl, oi_X9, by decide, om_2605⟩
theorem fl_X9_11 : jFL vwCl Om RX9 11 12 0 := ⟨RX9, TX9, 12, rfl, oi_X9, by decide, om_1618⟩
theorem fl_X9_78 : jFL vwCl Om RX9 78 12 10 := ⟨RX9, TX9, 12, rfl, oi_X9, by decide, om_2606⟩
theorem fl_X9_81 : jFL vwCl Om RX9 81 12 11 := ⟨RX9, TX9, 12, rfl, oi_X9, by decide, om_2607⟩
theorem fl_X9_28 : jFL vwCl Om RX9 28 12 3 := ⟨RX9, TX9, 12, rfl, oi_X9, by decide, om_1624⟩
theorem fl_X9_18 : jFL vwCl Om RX9 18 12 5 := ⟨RX9, TX9, 12, rfl, oi_X9, by decide, om_1620⟩
theorem fl_X9_75 : jFL vwCl Om RX9 75 12 9 := ⟨RX9, TX9, 12, rfl, oi_X9, by decide, om_2608⟩
theorem fl_X9_21 : jFL vwCl Om RX9 21 12 6 := ⟨RX9, TX9, 12, rfl, oi_X9, by decide, om_1621⟩
theorem fl_X9_24 : jFL vwCl Om RX9 24 12 7 := ⟨RX9, TX9, 12, rfl, oi_X9, by decide, om_1623⟩
theorem fl_X9_85 : jFL vwCl Om RX9 85 12 8 := ⟨RX9, TX9, 12, rfl, oi_X9, by decide, om_2609⟩
theorem fl_X6_45 : jFL vwCl Om RX6 45 12 9 := ⟨RX9, TX9, 12, rfl, oi_X9, by decide, om_2610⟩
theorem fl_X6_87 : jFL vwCl Om RX6 87 9 10 := ⟨RX6, TX6, 19, rfl, oi_X6, by decide, om_2611⟩
theorem fl_X6_111 : jFL vwCl Om RX6 111 12 10 := ⟨RX9, TX9, 12, rfl, oi_X9, by decide, om_2612⟩
theorem fl_X6_72 : jFL vwCl Om RX6 72 9 5 := ⟨RX6, TX6, 19, rfl, oi_X6, by decide, om_2613⟩
theorem fl_X6_15 : jFL vwCl Om RX6 15 9 1 := ⟨RX6, TX6, 19, rfl, oi_X6, by decide, om_1751⟩
theorem fl_X6_19 : jFL vwCl Om RX6 19 9 2 := ⟨RX6, TX6, 19, rfl, oi_X6, by decide, om_1752⟩
theorem fl_X6_22 : jFL vwCl Om RX6 22 9 3 := ⟨RX6, TX6, 19, rfl, oi_X6, by decide, om_1753⟩
theorem fl_X6_25 : jFL vwCl Om RX6 25 9 4 := ⟨RX6, TX6, 19, rfl, oi_X6, by decide, om_1754⟩
theorem fl_X6_118 : jFL vwCl Om RX6 118 12 11 := ⟨RX9, TX9, 12, rfl, oi_X9, by decide, om_2614⟩
theorem fl_X6_99 : jFL vwCl Om RX6 99 9 18 := ⟨RX6, TX6, 19, rfl, oi_X6, by decide, om_2615⟩
theorem fl_X6_35 : jFL vwCl Om RX6 35 9 17 := ⟨RX6, TX6, 19, rfl, oi_X6, by decide, om_1757⟩
theorem fl_X6_90 : jFL vwCl Om RX6 90 9 11 := ⟨RX6, TX6, 19, rfl, oi_X6, by decide, om_2616⟩
theorem fl_X6_96 : jFL vwCl Om RX6 96 9 16 := ⟨RX6, TX6, 19, rfl, oi_X6, by decide, om_2617⟩
theorem fl_X6_29 : jFL vwCl Om RX6 29 9 14 := ⟨RX6, TX6, 19, rfl, oi_X6, by decide, om_1755⟩
theorem fl_X6_32 : jFL vwCl Om RX6 32 9 15 := ⟨RX6, TX6, 19, rfl, oi_X6, by decide, om_1756⟩
theorem fl_X6_62 : jFL vwCl Om RX6 62 9 13 := ⟨RX6, TX6, 19, rfl, oi_X6, by decide, om_2618⟩
theorem fl_X6_93 : jFL vwCl Om RX6 93 9 12 := ⟨RX6, TX6, 19, rfl, oi_X6, by decide, om_2619⟩
theorem fl_X7_9 : jFL vwCl Om RX7 9 10 0 := ⟨RX7, TX7, 21, rfl, oi_X7, by decide, om_1791⟩
theorem fl_X7_86 : jFL vwCl Om RX7 86 12 9 := ⟨RX9, TX9, 12, rfl, oi_X9, by decide, om_2620⟩
theorem fl_X7_100 : jFL vwCl Om RX7 100 12 11 := ⟨RX9, TX9, 12, rfl, oi_X9, by decide, om_2621⟩
theorem fl_X7_23 : jFL vwCl Om RX7 23 10 1 := ⟨RX7, TX7, 21, rfl, oi_X7, by decide, om_1795⟩
theorem fl_X7_29 : jFL vwCl Om RX7 29 10 2 := ⟨RX7, TX7, 21, rfl, oi_X7, by decide, om_1796⟩
theorem fl_X7_70 : jFL vwCl Om RX7 70 10 3 := ⟨RX7, TX7, 21, rfl, oi_X7, by decide, om_2622⟩
theorem fl_X7_93 : jFL vwCl Om RX7 93 12 10 := ⟨RX9, TX9, 12, rfl, oi_X9, by decide, om_2623⟩
theorem fl_X7_74 : jFL vwCl Om RX7 74 10 16 := ⟨RX7, TX7, 21, rfl, oi_X7, by decide, om_2624⟩
theorem fl_X7_64 : jFL vwCl Om RX7 64 10 17 := ⟨RX7, TX7, 21, rfl, oi_X7, by decide, om_1807⟩
theorem fl_X7_67 : jFL vwCl Om RX7 67 10 18 := ⟨RX7, TX7, 21, rfl, oi_X7, by decide, om_1808⟩
theorem fl_X7_32 : jFL vwCl Om RX7 32 10 4 := ⟨RX7, TX7, 21, rfl, oi_X7, by decide, om_1797⟩
theorem fl_X7_36 : jFL vwCl Om RX7 36 10 5 := ⟨RX7, TX7, 21, rfl, oi_X7, by decide, om_1798⟩
theorem fl_X7_39 : jFL vwCl Om RX7 39 10 6 := ⟨RX7, TX7, 21, rfl, oi_X7, by decide, om_1799⟩
theorem fl_X7_110 : jFL vwCl Om RX7 110 10 14 := ⟨RX7, TX7, 21, rfl, oi_X7, by decide, om_2625⟩
theorem fl_X7_61 : jFL vwCl Om RX7 61 10 13 := ⟨RX7, TX7, 21, rfl, oi_X7, by decide, om_1806⟩
theorem fl_X7_48 : jFL vwCl Om RX7 48 10 9 := ⟨RX7, TX7, 21, rfl, oi_X7, by decide, om_1802⟩
theorem fl_X7_51 : jFL vwCl Om RX7 51 10 10 := ⟨RX7, TX7, 21, rfl, oi_X7, by decide, om_1803⟩
theorem fl_X7_54 : jFL vwCl Om RX7 54 10 11 := ⟨RX7, TX7, 21, rfl, oi_X7, by decide, om_1804⟩
theorem fl_X7_113 : jFL vwCl Om RX7 113 10 15 := ⟨RX7, TX7, 21, rfl, oi_X7, by decide, om_2626⟩
theorem fl_X7_57 : jFL vwCl Om RX7 57 10 12 := ⟨RX7, TX7, 21, rfl, oi_X7, by decide, om_1805⟩
theorem fl_X7_45 : jFL vwCl Om RX7 45 10 8 := ⟨RX7, TX7, 21, rfl, oi_X7, by decide, om_1801⟩
theorem fl_X7_42 : jFL vwCl Om RX7 42 10 7 := ⟨RX7, TX7, 21, rfl, oi_X7, by decide, om_1800⟩
theorem fl_X9_15 : jFL vwCl Om RX9 15 12 2 := ⟨RX9, TX9, 12, rfl, oi_X9, by decide, om_1619⟩
theorem fl_X10_15 : jFL vwCl Om RX10 15 13 2 := ⟨RX10, TX10, 18, rfl, oi_X10, by decide, om_1644⟩
theorem fl_X10_29 : jFL vwCl Om RX10 29 13 6 := ⟨RX10, TX10, 18, rfl, oi_X10, by decide, om_1649⟩
theorem fl_X10_41 : jFL vwCl Om RX10 41 13 10 := ⟨RX10, TX10, 18, rfl, oi_X10, by decide, om_1653⟩
theorem fl_X10_47 : jFL vwCl Om RX10 47 13 12 := ⟨RX10, TX10, 18, rfl, oi_X10, by decide, om_1655⟩
theorem fl_X10_53 : jFL vwCl Om RX10 53 13 14 := ⟨RX10, TX10, 18, rfl, oi_X10, by decide, om_1657⟩
theorem fl_X10_32 : jFL vwCl Om RX10 32 13 7 := ⟨RX10, TX10, 18, rfl, oi_X10, by decide, om_1650⟩
theorem fl_X11_12 : jFL vwCl Om RX11 12 14 0 := ⟨RX11, TX11, 18, rfl, oi_X11, by decide, om_1639⟩
theorem fl_X11_110 : jFL vwCl Om RX11 110 12 1 := ⟨RX9, TX9, 12, rfl, oi_X9, by decide, om_2627⟩
theorem fl_X11_113 : jFL vwCl Om RX11 113 12 0 := ⟨RX9, TX9, 12, rfl, oi_X9, by decide, om_2628⟩
theorem fl_X11_19 : jFL vwCl Om RX11 19 14 1 := ⟨RX11, TX11, 18, rfl, oi_X11, by decide, om_1664⟩
theorem fl_X11_130 : jFL vwCl Om RX11 130 13 0 := ⟨RX10, TX10, 18, rfl, oi_X10, by decide, om_2629⟩
theorem fl_X11_147 : jFL vwCl Om RX11 147 13 4 := ⟨RX10, TX10, 18, rfl, oi_X10, by decide, om_2630⟩
theorem fl_X11_151 : jFL vwCl Om RX11 151 13 6 := ⟨RX10, TX10, 18, rfl, oi_X10, by decide, om_2631⟩
theorem fl_X11_28 : jFL vwCl Om RX11 28 14 2 := ⟨RX11, TX11, 18, rfl, oi_X11, by decide, om_1681⟩
theorem fl_X11_161 : jFL vwCl Om RX11 161 5 9 := ⟨RX2, TX2, 14, rfl, oi_X2, by decide, om_2632⟩
theorem fl_X11_169 : jFL vwCl Om RX11 169 13 3 := ⟨RX10, TX10, 18, rfl, oi_X10, by decide, om_2633⟩
theorem fl_X11_172 : jFL vwCl Om RX11 172 13 2 := ⟨RX10, TX10, 18, rfl, oi_X10, by decide, om_2634⟩
theorem fl_X11_175 : jFL vwCl Om RX11 175 13 8 := ⟨RX10, TX10, 18, rfl, oi_X10, by decide, om_2635⟩
theorem fl_X11_182 : jFL vwCl Om RX11 182 13 7 := ⟨RX10, TX10, 18, rfl, oi_X10, by decide, om_2636⟩
theorem fl_X11_192 : jFL vwCl Om RX11 192 13 11 := ⟨RX10, TX10, 18, rfl, oi_X10, by decide, om_2637⟩
theorem fl_X11_195 : jFL vwCl Om RX11 195 13 12 := ⟨RX10, TX10, 18, rfl, oi_X10, by decide, om_2638⟩
theorem fl_X11_198 : jFL vwCl Om RX11 198 13 13 := ⟨RX10, TX10, 18, rfl, oi_X10, by decide, om_2639⟩
theorem fl_X11_201 : jFL vwCl Om RX11 201 13 14 := ⟨RX10, TX10, 18, rfl, oi_X10, by decide, om_2640⟩
theorem fl_X11_228 : jFL vwCl Om RX11 228 5 11 := ⟨RX2, TX2, 14, rfl, oi_X2, by decide, om_2641⟩
theorem fl_X11_231 : jFL vwCl Om RX11 231 5 10 := ⟨RX2, TX2, 14, rfl, oi_X2, by decide, om_2642⟩
theorem fl_X11_241 : jFL vwCl Om RX11 241 5 4 := ⟨RX2, TX2, 14, rfl, oi_X2, by decide, om_2643⟩
theorem fl_X11_35 : jFL vwCl Om RX11 35 14 3 := ⟨RX11, TX11, 18, rfl, oi_X11, by decide, om_1697⟩
theorem fl_X11_327 : jFL vwCl Om RX11 327 14 10 := ⟨RX11, TX11, 18, rfl, oi_X11, by decide, om_2644⟩
theorem fl_X11_70 : jFL vwCl Om RX11 70 14 9 := ⟨RX11, TX11, 18, rfl, oi_X11, by decide, om_1787⟩
theorem fl_X11_62 : jFL vwCl Om RX11 62 14 7 := ⟨RX11, TX11, 18, rfl, oi_X11, by decide, om_1784⟩
theorem fl_X11_66 : jFL vwCl Om RX11 66 14 8 := ⟨RX11, TX11, 18, rfl, oi_X11, by decide, om_1786⟩
theorem fl_X11_46 : jFL vwCl Om RX11 46 14 5 := ⟨RX11, TX11, 18, rfl, oi_X11, by decide, om_1746⟩
theorem fl_X11_268 : jFL vwCl Om RX11 268 5 7 := ⟨RX2, TX2, 14, rfl, oi_X2, by decide, om_2645⟩
theorem fl_X11_271 : jFL vwCl Om RX11 271 5 6 := ⟨RX2, TX2, 14, rfl, oi_X2, by decide, om_2646⟩
theorem fl_X11_274 : jFL vwCl Om RX11 274 5 5 := ⟨RX2, TX2, 14, rfl, oi_X2, by decide, om_2647⟩
theorem fl_X11_301 : jFL vwCl Om RX11 301 6 1 := ⟨RX3, TX3, 13, rfl, oi_X3, by decide, om_2648⟩
theorem fl_X11_307 : jFL vwCl Om RX11 307 13 5 := ⟨RX10, TX10, 18, rfl, oi_X10, by decide, om_2649⟩
theorem fl_X11_310 : jFL vwCl Om RX11 310 6 7 := ⟨RX3, TX3, 13, rfl, oi_X3, by decide, om_2650⟩
theorem fl_X11_317 : jFL vwCl Om RX11 317 6 11 := ⟨RX3, TX3, 13, rfl, oi_X3, by decide, om_2651⟩
theorem fl_X11_334 : jFL vwCl Om RX11 334 9 6 := ⟨RX6, TX6, 19, rfl, oi_X6, by decide, om_2652⟩
theorem fl_X11_337 : jFL vwCl Om RX11 337 9 7 := ⟨RX6, TX6, 19, rfl, oi_X6, by decide, om_2653⟩
theorem fl_X11_41 : jFL vwCl Om RX11 41 14 4 := ⟨RX11, TX11, 18, rfl, oi_X11, by decide, om_1699⟩
theorem fl_X11_357 : jFL vwCl Om RX11 357 8 0 := ⟨RX5, TX5, 21, rfl, oi_X5, by decide, om_2654⟩
theorem fl_X11_363 : jFL vwCl Om RX11 363 8 1 := ⟨RX5, TX5, 21, rfl, oi_X5, by decide, om_2655⟩
theorem fl_X11_366 : jFL vwCl Om RX11 366 8 2 := ⟨RX5, TX5, 21, rfl, oi_X5, by decide, om_2656⟩
theorem fl_X11_367 : jFL vwCl Om RX11 367 8 3 := ⟨RX5, TX5, 21, rfl, oi_X5, by decide, om_2657⟩
theorem fl_X11_368 : jFL vwCl Om RX11 368 8 5 := ⟨RX5, TX5, 21, rfl, oi_X5, by decide, om_2658⟩
theorem fl_X11_371 : jFL vwCl Om RX11 371 8 6 := ⟨RX5, TX5, 21, rfl, oi_X5, by decide, om_2659⟩
theorem fl_X11_374 : jFL vwCl Om RX11 374 8 7 := ⟨RX5, TX5, 21, rfl, oi_X5, by decide, om_2660⟩
theorem fl_X11_395 : jFL vwCl Om RX11 395 8 4 := ⟨RX5, TX5, 21, rfl, oi_X5, by decide, om_2661⟩
theorem fl_X11_396 : jFL vwCl Om RX11 396 8 9 := ⟨RX5, TX5, 21, rfl, oi_X5, by decide, om_2662⟩
theorem fl_X11_397 : jFL vwCl Om RX11 397 8 20 := ⟨RX5, TX5, 21, rfl, oi_X5, by decide, om_2663⟩
theorem fl_X11_401 : jFL vwCl Om RX11 401 11 2 := ⟨RX8, TX8, 18, rfl, oi_X8, by decide, om_2664⟩
theorem fl_X11_409 : jFL vwCl Om RX11 409 11 4 := ⟨RX8, TX8, 18, rfl, oi_X8, by decide, om_2665⟩
theorem fl_X11_406 : jFL vwCl Om RX11 406 11 3 := ⟨RX8, TX8, 18, rfl, oi_X8, by decide, om_2666⟩
theorem fl_X11_439 : jFL vwCl Om RX11 439 8 14 := ⟨RX5, TX5, 21, rfl, oi_X5, by decide, om_2667⟩
theorem fl_X11_445 : jFL vwCl Om RX11 445 8 16 := ⟨RX5, TX5, 21, rfl, oi_X5, by decide, om_2668⟩
theorem fl_X11_448 : jFL vwCl Om RX11 448 8 15 := ⟨RX5, TX5, 21, rfl, oi_X5, by decide, om_2669⟩
theorem fl_X11_95 : jFL vwCl Om RX11 95 14 14 := ⟨RX11, TX11, 18, rfl, oi_X11, by decide, om_1839⟩
theorem fl_X11_455 : jFL vwCl Om RX11 455 14 15 := ⟨RX11, TX11, 18, rfl, oi_X11, by decide, om_2670⟩
theorem fl_X11_55 : jFL vwCl Om RX11 55 14 6 := ⟨RX11, TX11, 18, rfl, oi_X11, by decide, om_1761⟩
theorem fl_X11_470 : jFL vwCl Om RX11 470 14 16 := ⟨RX11, TX11, 18, rfl, oi_X11, by decide, om_2671⟩
theorem fl_X11_465 : jFL vwCl Om RX11 465 7 20 := ⟨RX4, TX4, 21, rfl, oi_X4, by decide, om_2672⟩
theorem fl_X11_479 : jFL vwCl Om RX11 479 7 19 := ⟨RX4, TX4, 21, rfl, oi_X4, by decide, om_2673⟩
theorem fl_X11_476 : jFL vwCl Om RX11 476 7 18 := ⟨RX4, TX4, 21, rfl, oi_X4, by decide, om_2674⟩
theorem fl_X11_473 : jFL vwCl Om RX11 473 7 17 := ⟨RX4, TX4, 21, rfl, oi_X4, by decide, om_2675⟩
theorem fl_X11_77 : jFL vwCl Om RX11 77 14 11 := ⟨RX11, TX11, 18, rfl, oi_X11, by decide, om_1812⟩
theorem fl_X11_485 : jFL vwCl Om RX11 485 10 19 := ⟨RX7, TX7, 21, rfl, oi_X7, by decide, om_2676⟩
theorem fl_X11_486 : jFL vwCl Om RX11 486 10 20 := ⟨RX7, TX7, 21, rfl, oi_X7, by decide, om_2677⟩
theorem fl_X11_84 : jFL vwCl Om RX11 84 14 12 := ⟨RX11, TX11, 18, rfl, oi_X11, by decide, om_1825⟩
theorem fl_X11_491 : jFL vwCl Om RX11 491 10 16 := ⟨RX7, TX7, 21, rfl, oi_X7, by decide, om_2678⟩
theorem fl_X11_495 : jFL vwCl Om RX11 495 10 18 := ⟨RX7, TX7, 21, rfl, oi_X7, by decide, om_2679⟩
theorem fl_X11_98 : jFL vwCl Om RX11 98 14 17 := ⟨RX11, TX11, 18, rfl, oi_X11, by decide, om_1840⟩
theorem fl_X11_91 : jFL vwCl Om RX11 91 14 13 := ⟨RX11, TX11, 18, rfl, oi_X11, by decide, om_1838⟩
theorem fl_X11_506 : jFL vwCl Om RX11 506 3 1 := ⟨RX0, TX0, 15, rfl, oi_X0, by decide, om_2680⟩
theorem fl_X11_519 : jFL vwCl Om RX11 519 3 13 := ⟨RX0, TX0, 15, rfl, oi_X0, by decide, om_2681⟩
theorem fl_X11_520 : jFL vwCl Om RX11 520 3 14 := ⟨RX0, TX0, 15, rfl, oi_X0, by decide, om_2682⟩
theorem fl_X11_530 : jFL vwCl Om RX11 530 3 5 := ⟨RX0, TX0, 15, rfl, oi_X0, by decide, om_2683⟩
theorem fl_X11_541 : jFL vwCl Om RX11 541 5 2 := ⟨RX2, TX2, 14, rfl, oi_X2, by decide, om_2684⟩
theorem fl_X11_544 : jFL vwCl Om RX11 544 5 3 := ⟨RX2, TX2, 14, rfl, oi_X2, by decide, om_2685⟩
theorem fl_X11_547 : jFL vwCl Om RX11 547 6 6 := ⟨RX3, TX3, 13, rfl, oi_X3, by decide, om_2686⟩
theorem fl_X11_550 : jFL vwCl Om RX11 550 3 4 := ⟨RX0, TX0, 15, rfl, oi_X0, by decide, om_2687⟩
theorem fl_X12_388 : jFL vwCl Om RX12 388 15 0 := ⟨RX12, TX12, 150, rfl, oi_X12, by decide, om_2688⟩
theorem fl_X12_13 : jFL vwCl Om RX12 13 15 2 := ⟨RX12, TX12, 150, rfl, oi_X12, by decide, om_1844⟩
theorem fl_X12_391 : jFL vwCl Om RX12 391 15 3 := ⟨RX12, TX12, 150, rfl, oi_X12, by decide, om_2689⟩
theorem fl_X12_7 : jFL vwCl Om RX12 7 15 1 := ⟨RX12, TX12, 150, rfl, oi_X12, by decide, om_1843⟩
theorem fl_X12_74 : jFL vwCl Om RX12 74 15 4 := ⟨RX12, TX12, 150, rfl, oi_X12, by decide, om_1874⟩
theorem fl_X12_413 : jFL vwCl Om RX12 413 15 20 := ⟨RX12, TX12, 150, rfl, oi_X12, by decide, om_2690⟩
theorem fl_X12_91 : jFL vwCl Om RX12 91 15 9 := ⟨RX12, TX12, 150, rfl, oi_X12, by decide, om_1879⟩
theorem fl_X12_78 : jFL vwCl Om RX12 78 15 5 := ⟨RX12, TX12, 150, rfl, oi_X12, by decide, om_1875⟩
theorem fl_X12_87 : jFL vwCl Om RX12 87 15 8 := ⟨RX12, TX12, 150, rfl, oi_X12, by decide, om_1878⟩
theorem fl_X12_94 : jFL vwCl Om RX12 94 15 10 := ⟨RX12, TX12, 150, rfl, oi_X12, by decide, om_1880⟩
theorem fl_X12_115 : jFL vwCl Om RX12 115 15 17 := ⟨RX12, TX12, 150, rfl, oi_X12, by decide, om_1887⟩
theorem fl_X12_97 : jFL vwCl Om RX12 97 15 11 := ⟨RX12, TX12, 150, rfl, oi_X12, by decide, om_1881⟩
theorem fl_X12_100 : jFL vwCl Om RX12 100 15 12 := ⟨RX12, TX12, 150, rfl, oi_X12, by decide, om_1882⟩
theorem fl_X12_119 : jFL vwCl Om RX12 119 15 18 := ⟨RX12, TX12, 150, rfl, oi_X12, by decide, om_1888⟩
theorem fl_X12_103 : jFL vwCl Om RX12 103 15 13 := ⟨RX12, TX12, 150, rfl, oi_X12, by decide, om_1883⟩
theorem fl_X12_112 : jFL vwCl Om RX12 112 15 16 := ⟨RX12, TX12, 150, rfl, oi_X12, by decide, om_1886⟩
theorem fl_X12_109 : jFL vwCl Om RX12 109 15 15 := ⟨RX12, TX12, 150, rfl, oi_X12, by decide, om_1885⟩
theorem fl_X12_81 : jFL vwCl Om RX12 81 15 6 := ⟨RX12, TX12, 150, rfl, oi_X12, by decide, om_1876⟩
theorem fl_X12_106 : jFL vwCl Om RX12 106 15 14 := ⟨RX12, TX12, 150, rfl, oi_X12, by decide, om_1884⟩
theorem fl_X12_84 : jFL vwCl Om RX12 84 15 7 := ⟨RX12, TX12, 150, rfl, oi_X12, by decide, om_1877⟩
theorem fl_X12_435 : jFL vwCl Om RX12 435 15 26 := ⟨RX12, TX12, 150, rfl, oi_X12, by decide, om_2691⟩
theorem fl_X12_134 : jFL vwCl Om RX12 134 15 24 := ⟨RX12, TX12, 150, rfl, oi_X12, by decide, om_1893⟩
theorem fl_X12_125 : jFL vwCl Om RX12 125 15 21 := ⟨RX12, TX12, 150, rfl, oi_X12, by decide, om_1890⟩
theorem fl_X12_128 : jFL vwCl Om RX12 128 15 22 := ⟨RX12, TX12, 150, rfl, oi_X12, by decide, om_1891⟩
theorem fl_X12_131 : jFL vwCl Om RX12 131 15 23 := ⟨RX12, TX12, 150, rfl, oi_X12, by decide, om_1892⟩
theorem fl_X12_452 : jFL vwCl Om RX12 452 15 27 := ⟨RX12, TX12, 150, rfl, oi_X12, by decide, om_2692⟩
theorem fl_X12_461 : jFL vwCl Om RX12 461 15 28 := ⟨RX12, TX12, 150, rfl, oi_X12, by decide, om_2693⟩
theorem fl_X12_138 : jFL vwCl Om RX12 138 15 25 := ⟨RX12, TX12, 150, rfl, oi_X12, by decide, om_1895⟩
theorem fl_X12_470 : jFL vwCl Om RX12 470 15 31 := ⟨RX12, TX12, 150, rfl, oi_X12, by decide, om_2694⟩
theorem fl_X12_141 : jFL vwCl Om RX12 141 15 30 := ⟨RX12, TX12, 150, rfl, oi_X12, by decide, om_1896⟩
theorem fl_X12_479 : jFL vwCl Om RX12 479 15 36 := ⟨RX12, TX12, 150, rfl, oi_X12, by decide, om_2695⟩
theorem fl_X12_144 : jFL vwCl Om RX12 144 15 32 := ⟨RX12, TX12, 150, rfl, oi_X12, by decide, om_1897⟩
theorem fl_X12_147 : jFL vwCl Om RX12 147 15 33 := ⟨RX12, TX12, 150, rfl, oi_X12, by decide, om_1898⟩
theorem fl_X12_150 : jFL vwCl Om RX12 150 15 34 := ⟨RX12, TX12, 150, rfl, oi_X12, by decide, om_1899⟩
theorem fl_X12_482 : jFL vwCl Om RX12 482 15 29 := ⟨RX12, TX12, 150, rfl, oi_X12, by decide, om_2696⟩
theorem fl_X12_153 : jFL vwCl Om RX12 153 15 35 := ⟨RX12, TX12, 150, rfl, oi_X12, by decide, om_1900⟩
theorem fl_X12_485 : jFL vwCl Om RX12 485 15 44 := ⟨RX12, TX12, 150, rfl, oi_X12, by decide, om_2697⟩
theorem fl_X12_156 : jFL vwCl Om RX12 156 15 37 := ⟨RX12, TX12, 150, rfl, oi_X12, by decide, om_1901⟩
theorem fl_X12_159 : jFL vwCl Om RX12 159 15 38 := ⟨RX12, TX12, 150, rfl, oi_X12, by decide, om_1902⟩
theorem fl_X12_162 : jFL vwCl Om RX12 162 15 39 := ⟨RX12, TX12, 150, rfl, oi_X12, by decide, om_1903⟩
theorem fl_X12_165 : jFL vwCl Om RX12 165 15 40 := ⟨RX12, TX12, 150, rfl, oi_X12, by decide, om_1904⟩
theorem fl_X12_168 : jFL vwCl Om RX12 168 15 41 := ⟨RX12, TX12, 150, rfl, oi_X12, by decide, om_1905⟩
theorem fl_X12_171 : jFL vwCl Om RX12 171 15 42 := ⟨RX12, TX12, 150, rfl, oi_X12, by decide, om_1906⟩
theorem fl_X12_174 : jFL vwCl Om RX12 174 15 43 := ⟨RX12, TX12, 150, rfl, oi_X12, by decide, om_1907⟩
theorem fl_X12_872 : jFL vwCl Om RX12 872 15 113 := ⟨RX12, TX12, 150, rfl, oi_X12, by decide, om_2698⟩
theorem fl_X12_180 : jFL vwCl Om RX12 180 15 46 := ⟨RX12, TX12, 150, rfl, oi_X12, by decide, om_1909⟩
theorem fl_X12_522 : jFL vwCl Om RX12 522 15 47 := ⟨RX12, TX12, 150, rfl, oi_X12, by decide, om_2699⟩
theorem fl_X12_177 : jFL vwCl Om RX12 177 15 45 := ⟨RX12, TX12, 150, rfl, oi_X12, by decide, om_1908⟩
theorem fl_X12_122 : jFL vwCl Om RX12 122 15 19 := ⟨RX12, TX12, 150, rfl, oi_X12, by decide, om_1889⟩
theorem fl_X12_183 : jFL vwCl Om RX12 183 15 48 := ⟨RX12, TX12, 150, rfl, oi_X12, by decide, om_1910⟩
theorem fl_X12_234 : jFL vwCl Om RX12 234 15 65 := ⟨RX12, TX12, 150, rfl, oi_X12, by decide, om_1927⟩
theorem fl_X12_186 : jFL vwCl Om RX12 186 15 49 := ⟨RX12, TX12, 150, rfl, oi_X12, by decide, om_1911⟩
theorem fl_X12_189 : jFL vwCl Om RX12 189 15 50 := ⟨RX12, TX12, 150, rfl, oi_X12, by decide, om_1912⟩
theorem fl_X12_192 : jFL vwCl Om RX12 192 15 51 := ⟨RX12, TX12, 150, rfl, oi_X12, by decide, om_1913⟩
theorem fl_X12_195 : jFL vwCl Om RX12 195 15 52 := ⟨RX12, TX12, 150, rfl, oi_X12, by decide, om_1914⟩
theorem fl_X12_243 : jFL vwCl Om RX12 243 15 68 := ⟨RX12, TX12, 150, rfl, oi_X12, by decide, om_1930⟩
theorem fl_X12_237 : jFL vwCl Om RX12 237 15 66 := ⟨RX12, TX12, 150, rfl, oi_X12, by decide, om_1928⟩
theorem fl_X12_240 : jFL vwCl Om RX12 240 15 67 := ⟨RX12, TX12, 150, rfl, oi_X12, by decide, om_1929⟩
theorem fl_X12_249 : jFL vwCl Om RX12 249 15 70 := ⟨RX12, TX12, 150, rfl, oi_X12, by decide, om_1932⟩
theorem fl_X12_198 : jFL vwCl Om RX12 198 15 53 := ⟨RX12, TX12, 150, rfl, oi_X12, by decide, om_1915⟩
theorem fl_X12_201 : jFL vwCl Om RX12 201 15 54 := ⟨RX12, TX12, 150, rfl, oi_X12, by decide, om_1916⟩
theorem fl_X12_204 : jFL vwCl Om RX12 204 15 55 := ⟨RX12, TX12, 150, rfl, oi_X12, by decide, om_1917⟩
theorem fl_X12_869 : jFL vwCl Om RX12 869 15 114 := ⟨RX12, TX12, 150, rfl, oi_X12, by decide, om_2700⟩
theorem fl_X12_256 : jFL vwCl Om RX12 256 15 72 := ⟨RX12, TX12, 150, rfl, oi_X12, by decide, om_1935⟩
theorem fl_X12_581 : jFL vwCl Om RX12 581 15 73 := ⟨RX12, TX12, 150, rfl, oi_X12, by decide, om_2701⟩
theorem fl_X12_246 : jFL vwCl Om RX12 246 15 69 := ⟨RX12, TX12, 150, rfl, oi_X12, by decide, om_1931⟩
theorem fl_X12_213 : jFL vwCl Om RX12 213 15 58 := ⟨RX12, TX12, 150, rfl, oi_X12, by decide, om_1920⟩
theorem fl_X12_210 : jFL vwCl Om RX12 210 15 57 := ⟨RX12, TX12, 150, rfl, oi_X12, by decide, om_1919⟩
theorem fl_X12_207 : jFL vwCl Om RX12 207 15 56 := ⟨RX12, TX12, 150, rfl, oi_X12, by decide, om_1918⟩
theorem fl_X12_312 : jFL vwCl Om RX12 312 15 112 := ⟨RX12, TX12, 150, rfl, oi_X12, by decide, om_1954⟩
theorem fl_X12_309 : jFL vwCl Om RX12 309 15 111 := ⟨RX12, TX12, 150, rfl, oi_X12, by decide, om_1953⟩
theorem fl_X12_782 : jFL vwCl Om RX12 782 15 103 := ⟨RX12, TX12, 150, rfl, oi_X12, by decide, om_2702⟩
theorem fl_X12_272 : jFL vwCl Om RX12 272 15 86 := ⟨RX12, TX12, 150, rfl, oi_X12, by decide, om_1940⟩
theorem fl_X12_284 : jFL vwCl Om RX12 284 15 90 := ⟨RX12, TX12, 150, rfl, oi_X12, by decide, om_1944⟩
theorem fl_X12_826 : jFL vwCl Om RX12 826 15 97 := ⟨RX12, TX12, 150, rfl, oi_X12, by decide, om_2703⟩
theorem fl_X12_810 : jFL vwCl Om RX12 810 15 100 := ⟨RX12, TX12, 150, rfl, oi_X12, by decide, om_2704⟩
theorem fl_X12_290 : jFL vwCl Om RX12 290 15 104 := ⟨RX12, TX12, 150, rfl, oi_X12, by decide, om_1946⟩
theorem fl_X12_275 : jFL vwCl Om RX12 275 15 87 := ⟨RX12, TX12, 150, rfl, oi_X12, by decide, om_1941⟩
theorem fl_X12_779 : jFL vwCl Om RX12 779 15 98 := ⟨RX12, TX12, 150, rfl, oi_X12, by decide, om_2705⟩
theorem fl_X12_785 : jFL vwCl Om RX12 785 15 99 := ⟨RX12, TX12, 150, rfl, oi_X12, by decide, om_2706⟩
theorem fl_X12_788 : jFL vwCl Om RX12 788 15 102 := ⟨RX12, TX12, 150, rfl, oi_X12, by decide, om_2707⟩
theorem fl_X12_278 : jFL vwCl Om RX12 278 15 88 := ⟨RX12, TX12, 150, rfl, oi_X12, by decide, om_1942⟩
theorem fl_X12_297 : jFL vwCl Om RX12 297 15 106 := ⟨RX12, TX12, 150, rfl, oi_X12, by decide, om_1949⟩
theorem fl_X12_294 : jFL vwCl Om RX12 294 15 105 := ⟨RX12, TX12, 150, rfl, oi_X12, by decide, om_1948⟩
theorem fl_X12_846 : jFL vwCl Om RX12 846 15 101 := ⟨RX12, TX12, 150, rfl, oi_X12, by decide, om_2708⟩
theorem fl_X12_281 : jFL vwCl Om RX12 281 15 89 := ⟨RX12, TX12, 150, rfl, oi_X12, by decide, om_1943⟩
theorem fl_X12_225 : jFL vwCl Om RX12 225 15 62 := ⟨RX12, TX12, 150, rfl, oi_X12, by decide, om_1924⟩
theorem fl_X12_228 : jFL vwCl Om RX12 228 15 63 := ⟨RX12, TX12, 150, rfl, oi_X12, by decide, om_1925⟩
theorem fl_X12_216 : jFL vwCl Om RX12 216 15 59 := ⟨RX12, TX12, 150, rfl, oi_X12, by decide, om_1921⟩
theorem fl_X12_253 : jFL vwCl Om RX12 253 15 71 := ⟨RX12, TX12, 150, rfl, oi_X12, by decide, om_1934⟩
theorem fl_X12_231 : jFL vwCl Om RX12 231 15 64 := ⟨RX12, TX12, 150, rfl, oi_X12, by decide, om_1926⟩
theorem fl_X12_219 : jFL vwCl Om RX12 219 15 60 := ⟨RX12, TX12, 150, rfl, oi_X12, by decide, om_1922⟩
theorem fl_X12_222 : jFL vwCl Om RX12 222 15 61 := ⟨RX12, TX12, 150, rfl, oi_X12, by decide, om_1923⟩
theorem fl_X12_612 : jFL vwCl Om RX12 612 15 75 := ⟨RX12, TX12, 150, rfl, oi_X12, by decide, om_2709⟩
theorem fl_X12_259 : jFL vwCl Om RX12 259 15 74 := ⟨RX12, TX12, 150, rfl, oi_X12, by decide, om_1936⟩
theorem fl_X12_262 : jFL vwCl Om RX12 262 15 76 := ⟨RX12, TX12, 150, rfl, oi_X12, by decide, om_1937⟩
theorem fl_X12_265 : jFL vwCl Om RX12 265 15 77 := ⟨RX12, TX12, 150, rfl, oi_X12, by decide, om_1938⟩
theorem fl_X12_625 : jFL vwCl Om RX12 625 15 83 := ⟨RX12, TX12, 150, rfl, oi_X12, by decide, om_2710⟩
theorem fl_X12_631 : jFL vwCl Om RX12 631 15 78 := ⟨RX12, TX12, 150, rfl, oi_X12, by decide, om_2711⟩
theorem fl_X12_637 : jFL vwCl Om RX12 637 15 79 := ⟨RX12, TX12, 150, rfl, oi_X12, by decide, om_2712⟩
theorem fl_X12_640 : jFL vwCl Om RX12 640 15 85 := ⟨RX12, TX12, 150, rfl, oi_X12, by decide, om_2713⟩
theorem fl_X12_644 : jFL vwCl Om RX12 644 15 80 := ⟨RX12, TX12, 150, rfl, oi_X12, by decide, om_2714⟩
theorem fl_X12_673 : jFL vwCl Om RX12 673 15 91 := ⟨RX12, TX12, 150, rfl, oi_X12, by decide, om_2715⟩
theorem fl_X12_670 : jFL vwCl Om RX12 670 15 92 := ⟨RX12, TX12, 150, rfl, oi_X12, by decide, om_2716⟩
theorem fl_X12_676 : jFL vwCl Om RX12 676 15 93 := ⟨RX12, TX12, 150, rfl, oi_X12, by decide, om_2717⟩
theorem fl_X12_761 : jFL vwCl Om RX12 761 15 94 := ⟨RX12, TX12, 150, rfl, oi_X12, by decide, om_2718⟩
theorem fl_X12_764 : jFL vwCl Om RX12 764 15 95 := ⟨RX12, TX12, 150, rfl, oi_X12, by decide, om_2719⟩
theorem fl_X12_287 : jFL vwCl Om RX12 287 15 96 := ⟨RX12, TX12, 150, rfl, oi_X12, by decide, om_1945⟩
theorem fl_X12_628 : jFL vwCl Om RX12 628 15 84 := ⟨RX12, TX12, 150, rfl, oi_X12, by decide, om_2720⟩
theorem fl_X12_776 : jFL vwCl Om RX12 776 15 81 := ⟨RX12, TX12, 150, rfl, oi_X12, by decide, om_2721⟩
theorem fl_X12_852 : jFL vwCl Om RX12 852 15 110 := ⟨RX12, TX12, 150, rfl, oi_X12, by decide, om_2722⟩
theorem fl_X12_300 : jFL vwCl Om RX12 300 15 107 := ⟨RX12, TX12, 150, rfl, oi_X12, by decide, om_1950⟩
theorem fl_X12_303 : jFL vwCl Om RX12 303 15 108 := ⟨RX12, TX12, 150, rfl, oi_X12, by decide, om_1951⟩
theorem fl_X12_306 : jFL vwCl Om RX12 306 15 109 := ⟨RX12, TX12, 150, rfl, oi_X12, by decide, om_1952⟩
theorem fl_X12_888 : jFL vwCl Om RX12 888 15 135 := ⟨RX12, TX12, 150, rfl, oi_X12, by decide, om_2723⟩
theorem fl_X12_318 : jFL vwCl Om RX12 318 15 116 := ⟨RX12, TX12, 150, rfl, oi_X12, by decide, om_1956⟩
theorem fl_X12_324 : jFL vwCl Om RX12 324 15 118 := ⟨RX12, TX12, 150, rfl, oi_X12, by decide, om_1958⟩
theorem fl_X12_905 : jFL vwCl Om RX12 905 15 133 := ⟨RX12, TX12, 150, rfl, oi_X12, by decide, om_2724⟩
theorem fl_X12_315 : jFL vwCl Om RX12 315 15 115 := ⟨RX12, TX12, 150, rfl, oi_X12, by decide, om_1955⟩
theorem fl_X12_908 : jFL vwCl Om RX12 908 15 134 := ⟨RX12, TX12, 150, rfl, oi_X12, by decide, om_2725⟩
theorem fl_X12_327 : jFL vwCl Om RX12 327 15 119 := ⟨RX12, TX12, 150, rfl, oi_X12, by decide, om_1959⟩
theorem fl_X12_330 : jFL vwCl Om RX12 330 15 120 := ⟨RX12, TX12, 150, rfl, oi_X12, by decide, om_1960⟩
theorem fl_X12_894 : jFL vwCl Om RX12 894 15 136 := ⟨RX12, TX12, 150, rfl, oi_X12, by decide, om_2726⟩
theorem fl_X12_333 : jFL vwCl Om RX12 333 15 121 := ⟨RX12, TX12, 150, rfl, oi_X12, by decide, om_1961⟩
theorem fl_X12_897 : jFL vwCl Om RX12 897 15 137 := ⟨RX12, TX12, 150, rfl, oi_X12, by decide, om_2727⟩
theorem fl_X12_336 : jFL vwCl Om RX12 336 15 122 := ⟨RX12, TX12, 150, rfl, oi_X12, by decide, om_1962⟩
theorem fl_X12_351 : jFL vwCl Om RX12 351 15 127 := ⟨RX12, TX12, 150, rfl, oi_X12, by decide, om_1967⟩
theorem fl_X12_339 : jFL vwCl Om RX12 339 15 123 := ⟨RX12, TX12, 150, rfl, oi_X12, by decide, om_1963⟩
theorem fl_X12_345 : jFL vwCl Om RX12 345 15 125 := ⟨RX12, TX12, 150, rfl, oi_X12, by decide, om_1965⟩
theorem fl_X12_348 : jFL vwCl Om RX12 348 15 126 := ⟨RX12, TX12, 150, rfl, oi_X12, by decide, om_1966⟩
theorem fl_X12_321 : jFL vwCl Om RX12 321 15 117 := ⟨RX12, TX12, 150, rfl, oi_X12, by decide, om_1957⟩
theorem fl_X12_342 : jFL vwCl Om RX12 342 15 124 := ⟨RX12, TX12, 150, rfl, oi_X12, by decide, om_1964⟩
theorem fl_X12_357 : jFL vwCl Om RX12 357 15 129 := ⟨RX12, TX12, 150, rfl, oi_X12, by decide, om_1969⟩
theorem fl_X12_360 : jFL vwCl Om RX12 360 15 130 := ⟨RX12, TX12, 150, rfl, oi_X12, by decide, om_1970⟩
theorem fl_X12_363 : jFL vwCl Om RX12 363 15 131 := ⟨RX12, TX12, 150, rfl, oi_X12, by decide, om_1971⟩
theorem fl_X12_354 : jFL vwCl Om RX12 354 15 128 := ⟨RX12, TX12, 150, rfl, oi_X12, by decide, om_1968⟩
theorem fl_X12_933 : jFL vwCl Om RX12 933 15 138 := ⟨RX12, TX12, 150, rfl, oi_X12, by decide, om_2728⟩
theorem fl_X12_268 : jFL vwCl Om RX12 268 15 82 := ⟨RX12, TX12, 150, rfl, oi_X12, by decide, om_1939⟩
theorem fl_X12_953 : jFL vwCl Om RX12 953 15 141 := ⟨RX12, TX12, 150, rfl, oi_X12, by decide, om_2729⟩
theorem fl_X12_369 : jFL vwCl Om RX12 369 15 139 := ⟨RX12, TX12, 150, rfl, oi_X12, by decide, om_1973⟩
theorem fl_X12_975 : jFL vwCl Om RX12 975 15 142 := ⟨RX12, TX12, 150, rfl, oi_X12, by decide, om_2730⟩
theorem fl_X12_978 : jFL vwCl Om RX12 978 15 143 := ⟨RX12, TX12, 150, rfl, oi_X12, by decide, om_2731⟩
theorem fl_X12_375 : jFL vwCl Om RX12 375 15 144 := ⟨RX12, TX12, 150, rfl, oi_X12, by decide, om_1975⟩
theorem fl_X12_991 : jFL vwCl Om RX12 991 15 146 := ⟨RX12, TX12, 150, rfl, oi_X12, by decide, om_2732⟩
theorem fl_X12_378 : jFL vwCl Om RX12 378 15 145 := ⟨RX12, TX12, 150, rfl, oi_X12, by decide, om_1976⟩
theorem fl_X12_381 : jFL vwCl Om RX12 381 15 147 := ⟨RX12, TX12, 150, rfl, oi_X12, by decide, om_1977⟩
theorem fl_X12_1030 : jFL vwCl Om RX12 1030 15 149 := ⟨RX12, TX12, 150, rfl, oi_X12, by decide, om_2733⟩
theorem fl_X12_1027 : jFL vwCl Om RX12 1027 15 148 := ⟨RX12, TX12, 150, rfl, oi_X12, by decide, om_2734⟩
theorem fl_X12_372 : jFL vwCl Om RX12 372 15 140 := ⟨RX12, TX12, 150, rfl, oi_X12, by decide, om_1974⟩
theorem fp_X0_35 : jFP vwCl Om RX0 35 3 2 .int := ⟨RX0, TX0, 15, tyX0, rfl, oi_X0, by decide, om_2490, tyX0_ok, nmX0, rfl, by decide +kernel⟩
theorem fp_X0_26 : jFP vwCl Om RX0 26 3 6 (.array .int) := ⟨RX0, TX0, 15, tyX0, rfl, oi_X0, by decide, om_1832, tyX0_ok, nmX0, rfl, by decide +kernel⟩
theorem fp_X0_92 : jFP vwCl Om RX0 92 3 7 .int := ⟨RX0, TX0, 15, tyX0, rfl, oi_X0, by decide, om_2504, tyX0_ok, nmX0, rfl, by decide +kernel⟩
theorem fp_X0_95 : jFP vwCl Om RX0 95 3 8 .int := ⟨RX0, TX0, 15, tyX0, rfl, oi_X0, by decide, om_2503, tyX0_ok, nmX0, rfl, by decide +kernel⟩
theorem fp_X0_98 : jFP vwCl Om RX0 98 3 9 .int := ⟨RX0, TX0, 15, tyX0, rfl, oi_X0, by decide, om_2502, tyX0_ok, nmX0, rfl, by decide +kernel⟩
theorem fp_X0_101 : jFP vwCl Om RX0 101 3 13 .int := ⟨RX0, TX0, 15, tyX0, rfl, oi_X0, by decide, om_2506, tyX0_ok, nmX0, rfl, by decide +kernel⟩
theorem fp_X0_104 : jFP vwCl Om RX0 104 3 14 .int := ⟨RX0, TX0, 15, tyX0, rfl, oi_X0, by decide, om_2735, tyX0_ok, nmX0, rfl, by decide +kernel⟩
theorem fp_X5_82 : jFP vwCl Om RX5 82 8 0 .int := ⟨RX5, TX5, 21, tyX5, rfl, oi_X5, by decide, om_2501, tyX5_ok, nmX5, rfl, by decide +kernel⟩
theorem fp_X5_86 : jFP vwCl Om RX5 86 8 11 .int := ⟨RX5, TX5, 21, tyX5, rfl, oi_X5, by decide, om_2509, tyX5_ok, nmX5, rfl, by decide +kernel⟩
theorem fp_X5_89 : jFP vwCl Om RX5 89 8 16 .int := ⟨RX5, TX5, 21, tyX5, rfl, oi_X5, by decide, om_2603, tyX5_ok, nmX5, rfl, by decide +kernel⟩
theorem fp_X5_92 : jFP vwCl Om RX5 92 11 1 .int := ⟨RX8, TX8, 18, tyX8, rfl, oi_X8, by decide, om_2736, tyX8_ok, nmX8, rfl, by decide +kernel⟩
theorem fp_X0_134 : jFP vwCl Om RX0 134 3 10 .int := ⟨RX0, TX0, 15, tyX0, rfl, oi_X0, by decide, om_2505, tyX0_ok, nmX0, rfl, by decide +kernel⟩
theorem fp_X0_197 : jFP vwCl Om RX0 197 3 4 .int := ⟨RX0, TX0, 15, tyX0, rfl, oi_X0, by decide, om_2510, tyX0_ok, nmX0, rfl, by decide +kernel⟩
theorem fp_X0_206 : jFP vwCl Om RX0 206 3 5 .int := ⟨RX0, TX0, 15, tyX0, rfl, oi_X0, by decide, om_2511, tyX0_ok, nmX0, rfl, by decide +kernel⟩
theorem fp_X1_34 : jFP vwCl Om RX1 34 4 8 (.object "HeapWorks$RuleText") := ⟨RX1, TX1, 10, tyX1, rfl, oi_X1, by decide, om_2517, tyX1_ok, nmX1, rfl, by decide +kernel⟩
theorem fp_X1_50 : jFP vwCl Om RX1 50 4 1 .int := ⟨RX1, TX1, 10, tyX1, rfl, oi_X1, by decide, om_2513, tyX1_ok, nmX1, rfl, by decide +kernel⟩
theorem fp_X1_51 : jFP vwCl Om RX1 51 4 2 .long := ⟨RX1, TX1, 10, tyX1, rfl, oi_X1, by decide, om_2524, tyX1_ok, nmX1, rfl, by decide +kernel⟩
theorem fp_X1_68 : jFP vwCl Om RX1 68 4 9 .boolean := ⟨RX1, TX1, 10, tyX1, rfl, oi_X1, by decide, om_2523, tyX1_ok, nmX1, rfl, by decide +kernel⟩
theorem fp_X2_47 : jFP vwCl Om RX2 47 5 1 .int := ⟨RX2, TX2, 14, tyX2, rfl, oi_X2, by decide, om_2531, tyX2_ok, nmX2, rfl, by decide +kernel⟩
theorem fp_X2_75 : jFP vwCl Om RX2 75 5 2 .int := ⟨RX2, TX2, 14, tyX2, rfl, oi_X2, by decide, om_2533, tyX2_ok, nmX2, rfl, by decide +kernel⟩
theorem fp_X2_62 : jFP vwCl Om RX2 62 5 3 .int := ⟨RX2, TX2, 14, tyX2, rfl, oi_X2, by decide, om_2532, tyX2_ok, nmX2, rfl, by decide +kernel⟩
theorem fp_X2_89 : jFP vwCl Om RX2 89 5 11 .int := ⟨RX2, TX2, 14, tyX2, rfl, oi_X2, by decide, om_2534, tyX2_ok, nmX2, rfl, by decide +kernel⟩
theorem fp_X3_116 : jFP vwCl Om RX3 116 6 5 .int := ⟨RX3, TX3, 13, tyX3, rfl, oi_X3, by decide, om_2538, tyX3_ok, nmX3, rfl, by decide +kernel⟩
theorem fp_X3_119 : jFP vwCl Om RX3 119 6 6 .int := ⟨RX3, TX3, 13, tyX3, rfl, oi_X3, by decide, om_2539, tyX3_ok, nmX3, rfl, by decide +kernel⟩
theorem fp_X3_85 : jFP vwCl Om RX3 85 6 1 .int := ⟨RX3, TX3, 13, tyX3, rfl, oi_X3, by decide, om_2540, tyX3_ok, nmX3, rfl, by decide +kernel⟩
theorem fp_X3_53 : jFP vwCl Om RX3 53 6 7 .int := ⟨RX3, TX3, 13, tyX3, rfl, oi_X3, by decide, om_2541, tyX3_ok, nmX3, rfl, by decide +kernel⟩
theorem fp_X4_75 : jFP vwCl Om RX4 75 7 2 (.object "HeapWorks$Program") := ⟨RX4, TX4, 21, tyX4, rfl, oi_X4, by decide, om_2552, tyX4_ok, nmX4, rfl, by decide +kernel⟩
theorem fp_X4_79 : jFP vwCl Om RX4 79 7 1 (.object "HeapWorks$Picture") := ⟨RX4, TX4, 21, tyX4, rfl, oi_X4, by decide, om_2558, tyX4_ok, nmX4, rfl, by decide +kernel⟩
theorem fp_X4_83 : jFP vwCl Om RX4 83 7 3 .int := ⟨RX4, TX4, 21, tyX4, rfl, oi_X4, by decide, om_2554, tyX4_ok, nmX4, rfl, by decide +kernel⟩
theorem fp_X4_67 : jFP vwCl Om RX4 67 7 6 .int := ⟨RX4, TX4, 21, tyX4, rfl, oi_X4, by decide, om_2549, tyX4_ok, nmX4, rfl, by decide +kernel⟩
theorem fp_X4_277 : jFP vwCl Om RX4 277 7 20 .int := ⟨RX4, TX4, 21, tyX4, rfl, oi_X4, by decide, om_2567, tyX4_ok, nmX4, rfl, by decide +kernel⟩
theorem fp_X8_60 : jFP vwCl Om RX8 60 11 1 .int := ⟨RX8, TX8, 18, tyX8, rfl, oi_X8, by decide, om_2574, tyX8_ok, nmX8, rfl, by decide +kernel⟩
theorem fp_X8_142 : jFP vwCl Om RX8 142 11 9 .int := ⟨RX8, TX8, 18, tyX8, rfl, oi_X8, by decide, om_2597, tyX8_ok, nmX8, rfl, by decide +kernel⟩
theorem fp_X8_159 : jFP vwCl Om RX8 159 11 11 .int := ⟨RX8, TX8, 18, tyX8, rfl, oi_X8, by decide, om_2600, tyX8_ok, nmX8, rfl, by decide +kernel⟩
theorem fp_X6_72 : jFP vwCl Om RX6 72 9 5 .int := ⟨RX6, TX6, 19, tyX6, rfl, oi_X6, by decide, om_2613, tyX6_ok, nmX6, rfl, by decide +kernel⟩
theorem fp_X6_75 : jFP vwCl Om RX6 75 9 6 .int := ⟨RX6, TX6, 19, tyX6, rfl, oi_X6, by decide, om_2737, tyX6_ok, nmX6, rfl, by decide +kernel⟩
theorem fp_X6_78 : jFP vwCl Om RX6 78 9 7 .int := ⟨RX6, TX6, 19, tyX6, rfl, oi_X6, by decide, om_2738, tyX6_ok, nmX6, rfl, by decide +kernel⟩
theorem fp_X6_81 : jFP vwCl Om RX6 81 9 8 .boolean := ⟨RX6, TX6, 19, tyX6, rfl, oi_X6, by decide, om_2739, tyX6_ok, nmX6, rfl, by decide +kernel⟩
theorem fp_X6_84 : jFP vwCl Om RX6 84 9 9 .boolean := ⟨RX6, TX6, 19, tyX6, rfl, oi_X6, by decide, om_2740, tyX6_ok, nmX6, rfl, by decide +kernel⟩
theorem fp_X6_87 : jFP vwCl Om RX6 87 9 10 .int := ⟨RX6, TX6, 19, tyX6, rfl, oi_X6, by decide, om_2611, tyX6_ok, nmX6, rfl, by decide +kernel⟩
theorem fp_X6_90 : jFP vwCl Om RX6 90 9 11 .int := ⟨RX6, TX6, 19, tyX6, rfl, oi_X6, by decide, om_2616, tyX6_ok, nmX6, rfl, by decide +kernel⟩
theorem fp_X6_93 : jFP vwCl Om RX6 93 9 12 .int := ⟨RX6, TX6, 19, tyX6, rfl, oi_X6, by decide, om_2619, tyX6_ok, nmX6, rfl, by decide +kernel⟩
theorem fp_X6_62 : jFP vwCl Om RX6 62 9 13 .boolean := ⟨RX6, TX6, 19, tyX6, rfl, oi_X6, by decide, om_2618, tyX6_ok, nmX6, rfl, by decide +kernel⟩
theorem fp_X6_96 : jFP vwCl Om RX6 96 9 16 .int := ⟨RX6, TX6, 19, tyX6, rfl, oi_X6, by decide, om_2617, tyX6_ok, nmX6, rfl, by decide +kernel⟩
theorem fp_X6_99 : jFP vwCl Om RX6 99 9 18 .int := ⟨RX6, TX6, 19, tyX6, rfl, oi_X6, by decide, om_2615, tyX6_ok, nmX6, rfl, by decide +kernel⟩
theorem fp_X9_69 : jFP vwCl Om RX9 69 12 4 .int := ⟨RX9, TX9, 12, tyX9, rfl, oi_X9, by decide, om_2604, tyX9_ok, nmX9, rfl, by decide +kernel⟩
theorem fp_X9_78 : jFP vwCl Om RX9 78 12 10 .int := ⟨RX9, TX9, 12, tyX9, rfl, oi_X9, by decide, om_2606, tyX9_ok, nmX9, rfl, by decide +kernel⟩
theorem fp_X9_81 : jFP vwCl Om RX9 81 12 11 .long := ⟨RX9, TX9, 12, tyX9, rfl, oi_X9, by decide, om_2607, tyX9_ok, nmX9, rfl, by decide +kernel⟩
theorem fp_X9_75 : jFP vwCl Om RX9 75 12 9 .int := ⟨RX9, TX9, 12, tyX9, rfl, oi_X9, by decide, om_2608, tyX9_ok, nmX9, rfl, by decide +kernel⟩
theorem fp_X9_85 : jFP vwCl Om RX9 85 12 8 .int := ⟨RX9, TX9, 12, tyX9, rfl, oi_X9, by decide, om_2609, tyX9_ok, nmX9, rfl, by decide +kernel⟩
theorem fp_X7_70 : jFP vwCl Om RX7 70 10 3 .int := ⟨RX7, TX7, 21, tyX7, rfl, oi_X7, by decide, om_2622, tyX7_ok, nmX7, rfl, by decide +kernel⟩
theorem fp_X7_74 : jFP vwCl Om RX7 74 10 16 .int := ⟨RX7, TX7, 21, tyX7, rfl, oi_X7, by decide, om_2624, tyX7_ok, nmX7, rfl, by decide +kernel⟩
theorem fp_X7_77 : jFP vwCl Om RX7 77 10 19 .int := ⟨RX7, TX7, 21, tyX7, rfl, oi_X7, by decide, om_2741, tyX7_ok, nmX7, rfl, by decide +kernel⟩
theorem fp_X7_80 : jFP vwCl Om RX7 80 10 20 .int := ⟨RX7, TX7, 21, tyX7, rfl, oi_X7, by decide, om_2742, tyX7_ok, nmX7, rfl, by decide +kernel⟩
theorem fp_X7_110 : jFP vwCl Om RX7 110 10 14 .int := ⟨RX7, TX7, 21, tyX7, rfl, oi_X7, by decide, om_2625, tyX7_ok, nmX7, rfl, by decide +kernel⟩
theorem fp_X7_113 : jFP vwCl Om RX7 113 10 15 .int := ⟨RX7, TX7, 21, tyX7, rfl, oi_X7, by decide, om_2626, tyX7_ok, nmX7, rfl, by decide +kernel⟩
theorem fp_X9_49 : jFP vwCl Om RX9 49 12 1 .int := ⟨RX9, TX9, 12, tyX9, rfl, oi_X9, by decide, om_2605, tyX9_ok, nmX9, rfl, by decide +kernel⟩
theorem fp_X10_65 : jFP vwCl Om RX10 65 13 0 .int := ⟨RX10, TX10, 18, tyX10, rfl, oi_X10, by decide, om_2507, tyX10_ok, nmX10, rfl, by decide +kernel⟩
theorem fp_X11_110 : jFP vwCl Om RX11 110 12 1 .int := ⟨RX9, TX9, 12, tyX9, rfl, oi_X9, by decide, om_2627, tyX9_ok, nmX9, rfl, by decide +kernel⟩
theorem fp_X11_228 : jFP vwCl Om RX11 228 5 11 .int := ⟨RX2, TX2, 14, tyX2, rfl, oi_X2, by decide, om_2641, tyX2_ok, nmX2, rfl, by decide +kernel⟩
theorem fp_X11_470 : jFP vwCl Om RX11 470 14 16 .int := ⟨RX11, TX11, 18, tyX11, rfl, oi_X11, by decide, om_2671, tyX11_ok, nmX11, rfl, by decide +kernel⟩
theorem fp_X11_98 : jFP vwCl Om RX11 98 14 17 .int := ⟨RX11, TX11, 18, tyX11, rfl, oi_X11, by decide, om_1840, tyX11_ok, nmX11, rfl, by decide +kernel⟩
theorem fp_X11_327 : jFP vwCl Om RX11 327 14 10 .int := ⟨RX11, TX11, 18, tyX11, rfl, oi_X11, by decide, om_2644, tyX11_ok, nmX11, rfl, by decide +kernel⟩
theorem fp_X11_455 : jFP vwCl Om RX11 455 14 15 .int := ⟨RX11, TX11, 18, tyX11, rfl, oi_X11, by decide, om_2670, tyX11_ok, nmX11, rfl, by decide +kernel⟩
theorem fp_X11_465 : jFP vwCl Om RX11 465 7 20 .int := ⟨RX4, TX4, 21, tyX4, rfl, oi_X4, by decide, om_2672, tyX4_ok, nmX4, rfl, by decide +kernel⟩
theorem fp_X11_46 : jFP vwCl Om RX11 46 14 5 (.object "HeapWorks$Picture") := ⟨RX11, TX11, 18, tyX11, rfl, oi_X11, by decide, om_1746, tyX11_ok, nmX11, rfl, by decide +kernel⟩
theorem fp_X12_388 : jFP vwCl Om RX12 388 15 0 .int := ⟨RX12, TX12, 150, tyX12, rfl, oi_X12, by decide, om_2688, tyX12_ok, nmX12, rfl, by decide +kernel⟩
theorem fp_X12_391 : jFP vwCl Om RX12 391 15 3 .int := ⟨RX12, TX12, 150, tyX12, rfl, oi_X12, by decide, om_2689, tyX12_ok, nmX12, rfl, by decide +kernel⟩
theorem fp_X12_413 : jFP vwCl Om RX12 413 15 20 .int := ⟨RX12, TX12, 150, tyX12, rfl, oi_X12, by decide, om_2690, tyX12_ok, nmX12, rfl, by decide +kernel⟩
theorem fp_X12_435 : jFP vwCl Om RX12 435 15 26 .int := ⟨RX12, TX12, 150, tyX12, rfl, oi_X12, by decide, om_2691, tyX12_ok, nmX12, rfl, by decide +kernel⟩
theorem fp_X12_452 : jFP vwCl Om RX12 452 15 27 .int := ⟨RX12, TX12, 150, tyX12, rfl, oi_X12, by decide, om_2692, tyX12_ok, nmX12, rfl, by decide +kernel⟩
theorem fp_X12_461 : jFP vwCl Om RX12 461 15 28 .int := ⟨RX12, TX12, 150, tyX12, rfl, oi_X12, by decide, om_2693, tyX12_ok, nmX12, rfl, by decide +kernel⟩
theorem fp_X12_470 : jFP vwCl Om RX12 470 15 31 .int := ⟨RX12, TX12, 150, tyX12, rfl, oi_X12, by decide, om_2694, tyX12_ok, nmX12, rfl, by decide +kernel⟩
theorem fp_X12_479 : jFP vwCl Om RX12 479 15 36 .int := ⟨RX12, TX12, 150, tyX12, rfl, oi_X12, by decide, om_2695, tyX12_ok, nmX12, rfl, by decide +kernel⟩
theorem fp_X12_482 : jFP vwCl Om RX12 482 15 29 .int := ⟨RX12, TX12, 150, tyX12, rfl, oi_X12, by decide, om_2696, tyX12_ok, nmX12, rfl, by decide +kernel⟩
theorem fp_X12_522 : jFP vwCl Om RX12 522 15 47 .int := ⟨RX12, TX12, 150, tyX12, rfl, oi_X12, by decide, om_2699, tyX12_ok, nmX12, rfl, by decide +kernel⟩
theorem fp_X12_581 : jFP vwCl Om RX12 581 15 73 .int := ⟨RX12, TX12, 150, tyX12, rfl, oi_X12, by decide, om_2701, tyX12_ok, nmX12, rfl, by decide +kernel⟩
theorem fp_X12_826 : jFP vwCl Om RX12 826 15 97 .int := ⟨RX12, TX12, 150, tyX12, rfl, oi_X12, by decide, om_2703, tyX12_ok, nmX12, rfl, by decide +kernel⟩
theorem fp_X12_779 : jFP vwCl Om RX12 779 15 98 .int := ⟨RX12, TX12, 150, tyX12, rfl, oi_X12, by decide, om_2705, tyX12_ok, nmX12, rfl, by decide +kernel⟩
theorem fp_X12_782 : jFP vwCl Om RX12 782 15 103 .boolean := ⟨RX12, TX12, 150, tyX12, rfl, oi_X12, by decide, om_2702, tyX12_ok, nmX12, rfl, by decide +kernel⟩
theorem fp_X12_846 : jFP vwCl Om RX12 846 15 101 .int := ⟨RX12, TX12, 150, tyX12, rfl, oi_X12, by decide, om_2708, tyX12_ok, nmX12, rfl, by decide +kernel⟩
theorem fp_X12_785 : jFP vwCl Om RX12 785 15 99 .int := ⟨RX12, TX12, 150, tyX12, rfl, oi_X12, by decide, om_2706, tyX12_ok, nmX12, rfl, by decide +kernel⟩
theorem fp_X12_788 : jFP vwCl Om RX12 788 15 102 .long := ⟨RX12, TX12, 150, tyX12, rfl, oi_X12, by decide, om_2707, tyX12_ok, nmX12, rfl, by decide +kernel⟩
theorem fp_X12_485 : jFP vwCl Om RX12 485 15 44 .int := ⟨RX12, TX12, 150, tyX12, rfl, oi_X12, by decide, om_2697, tyX12_ok, nmX12, rfl, by decide +kernel⟩
theorem fp_X12_612 : jFP vwCl Om RX12 612 15 75 .int := ⟨RX12, TX12, 150, tyX12, rfl, oi_X12, by decide, om_2709, tyX12_ok, nmX12, rfl, by decide +kernel⟩
theorem fp_X12_625 : jFP vwCl Om RX12 625 15 83 .int := ⟨RX12, TX12, 150, tyX12, rfl, oi_X12, by decide, om_2710, tyX12_ok, nmX12, rfl, by decide +kernel⟩
theorem fp_X12_628 : jFP vwCl Om RX12 628 15 84 .int := ⟨RX12, TX12, 150, tyX12, rfl, oi_X12, by decide, om_2720, tyX12_ok, nmX12, rfl, by decide +kernel⟩
theorem fp_X12_631 : jFP vwCl Om RX12 631 15 78 .int := ⟨RX12, TX12, 150, tyX12, rfl, oi_X12, by decide, om_2711, tyX12_ok, nmX12, rfl, by decide +kernel⟩
theorem fp_X12_637 : jFP vwCl Om RX12 637 15 79 .int := ⟨RX12, TX12, 150, tyX12, rfl, oi_X12, by decide, om_2712, tyX12_ok, nmX12, rfl, by decide +kernel⟩
theorem fp_X12_640 : jFP vwCl Om RX12 640 15 85 .long := ⟨RX12, TX12, 150, tyX12, rfl, oi_X12, by decide, om_2713, tyX12_ok, nmX12, rfl, by decide +kernel⟩
theorem fp_X12_644 : jFP vwCl Om RX12 644 15 80 .int := ⟨RX12, TX12, 150, tyX12, rfl, oi_X12, by decide, om_2714, tyX12_ok, nmX12, rfl, by decide +kernel⟩
theorem fp_X12_670 : jFP vwCl Om RX12 670 15 92 .int := ⟨RX12, TX12, 150, tyX12, rfl, oi_X12, by decide, om_2716, tyX12_ok, nmX12, rfl, by decide +kernel⟩
theorem fp_X12_676 : jFP vwCl Om RX12 676 15 93 .int := ⟨RX12, TX12, 150, tyX12, rfl, oi_X12, by decide, om_2717, tyX12_ok, nmX12, rfl, by decide +kernel⟩
theorem fp_X12_761 : jFP vwCl Om RX12 761 15 94 .int := ⟨RX12, TX12, 150, tyX12, rfl, oi_X12, by decide, om_2718, tyX12_ok, nmX12, rfl, by decide +kernel⟩
theorem fp_X12_673 : jFP vwCl Om RX12 673 15 91 .int := ⟨RX12, TX12, 150, tyX12, rfl, oi_X12, by decide, om_2715, tyX12_ok, nmX12, rfl, by decide +kernel⟩
theorem fp_X12_776 : jFP vwCl Om RX12 776 15 81 .int := ⟨RX12, TX12, 150, tyX12, rfl, oi_X12, by decide, om_2721, tyX12_ok, nmX12, rfl, by decide +kernel⟩
theorem fp_X12_268 : jFP vwCl Om RX12 268 15 82 .int := ⟨RX12, TX12, 150, tyX12, rfl, oi_X12, by decide, om_1939, tyX12_ok, nmX12, rfl, by decide +kernel⟩
theorem fp_X12_852 : jFP vwCl Om RX12 852 15 110 .int := ⟨RX12, TX12, 150, tyX12, rfl, oi_X12, by decide, om_2722, tyX12_ok, nmX12, rfl, by decide +kernel⟩
theorem fp_X12_764 : jFP vwCl Om RX12 764 15 95 .boolean := ⟨RX12, TX12, 150, tyX12, rfl, oi_X12, by decide, om_2719, tyX12_ok, nmX12, rfl, by decide +kernel⟩
theorem fp_X12_810 : jFP vwCl Om RX12 810 15 100 .int := ⟨RX12, TX12, 150, tyX12, rfl, oi_X12, by decide, om_2704, tyX12_ok, nmX12, rfl, by decide +kernel⟩
theorem fp_X12_872 : jFP vwCl Om RX12 872 15 113 .int := ⟨RX12, TX12, 150, tyX12, rfl, oi_X12, by decide, om_2698, tyX12_ok, nmX12, rfl, by decide +kernel⟩
theorem fp_X12_869 : jFP vwCl Om RX12 869 15 114 .boolean := ⟨RX12, TX12, 150, tyX12, rfl, oi_X12, by decide, om_2700, tyX12_ok, nmX12, rfl, by decide +kernel⟩
theorem fp_X12_888 : jFP vwCl Om RX12 888 15 135 .int := ⟨RX12, TX12, 150, tyX12, rfl, oi_X12, by decide, om_2723, tyX12_ok, nmX12, rfl, by decide +kernel⟩
theorem fp_X12_894 : jFP vwCl Om RX12 894 15 136 .int := ⟨RX12, TX12, 150, tyX12, rfl, oi_X12, by decide, om_2726, tyX12_ok, nmX12, rfl, by decide +kernel⟩
theorem fp_X12_897 : jFP vwCl Om RX12 897 15 137 .int := ⟨RX12, TX12, 150, tyX12, rfl, oi_X12, by decide, om_2727, tyX12_ok, nmX12, rfl, by decide +kernel⟩
theorem fp_X12_905 : jFP vwCl Om RX12 905 15 133 .int := ⟨RX12, TX12, 150, tyX12, rfl, oi_X12, by decide, om_2724, tyX12_ok, nmX12, rfl, by decide +kernel⟩
theorem fp_X12_908 : jFP vwCl Om RX12 908 15 134 .int := ⟨RX12, TX12, 150, tyX12, rfl, oi_X12, by decide, om_2725, tyX12_ok, nmX12, rfl, by decide +kernel⟩
theorem fp_X12_933 : jFP vwCl Om RX12 933 15 138 .boolean := ⟨RX12, TX12, 150, tyX12, rfl, oi_X12, by decide, om_2728, tyX12_ok, nmX12, rfl, by decide +kernel⟩
theorem fp_X12_953 : jFP vwCl Om RX12 953 15 141 .int := ⟨RX12, TX12, 150, tyX12, rfl, oi_X12, by decide, om_2729, tyX12_ok, nmX12, rfl, by decide +kernel⟩
theorem fp_X12_978 : jFP vwCl Om RX12 978 15 143 .int := ⟨RX12, TX12, 150, tyX12, rfl, oi_X12, by decide, om_2731, tyX12_ok, nmX12, rfl, by decide +kernel⟩
theorem fp_X12_975 : jFP vwCl Om RX12 975 15 142 .int := ⟨RX12, TX12, 150, tyX12, rfl, oi_X12, by decide, om_2730, tyX12_ok, nmX12, rfl, by decide +kernel⟩
theorem fp_X12_991 : jFP vwCl Om RX12 991 15 146 .int := ⟨RX12, TX12, 150, tyX12, rfl, oi_X12, by decide, om_2732, tyX12_ok, nmX12, rfl, by decide +kernel⟩
theorem fp_X12_1030 : jFP vwCl Om RX12 1030 15 149 .int := ⟨RX12, TX12, 150, tyX12, rfl, oi_X12, by decide, om_2733, tyX12_ok, nmX12, rfl, by decide +kernel⟩
theorem fp_X12_1027 : jFP vwCl Om RX12 1027 15 148 .int := ⟨RX12, TX12, 150, tyX12, rfl, oi_X12, by decide, om_2734, tyX12_ok, nmX12, rfl, by decide +kernel⟩
theorem mv_X0_39 : (.methodLink RX0 39 yX0_put : Cond) ∈ Om ∧ (.instanceMethod yX0_put : Cond) ∈ Om ∧ (.selects RX0 yX0_put yX0_put : Cond) ∈ Om ∧ (.initialized RX0 : Cond) ∈ Om := ⟨om_1, om_2, om_3, om_4⟩
theorem mv_X0_46 : (.methodLink RX0 46 yX0_putNumber : Cond) ∈ Om ∧ (.instanceMethod yX0_putNumber : Cond) ∈ Om ∧ (.selects RX0 yX0_putNumber yX0_putNumber : Cond) ∈ Om ∧ (.initialized RX0 : Cond) ∈ Om := ⟨om_7, om_8, om_9, om_4⟩
theorem mv_X0_85 : (.methodLink RX0 85 yX0_checkOf : Cond) ∈ Om ∧ (.static yX0_checkOf : Cond) ∈ Om ∧ (.initialized RX0 : Cond) ∈ Om := ⟨om_16, om_17, om_4⟩
theorem mv_X0_107 : (.methodLink RX0 107 yX5_forget : Cond) ∈ Om ∧ (.instanceMethod yX5_forget : Cond) ∈ Om ∧ (.selects RX5 yX5_forget yX5_forget : Cond) ∈ Om ∧ (.initialized RX5 : Cond) ∈ Om := ⟨om_19, om_20, om_21, om_22⟩
theorem mv_X0_130 : (.methodLink RX0 130 yX0_fail : Cond) ∈ Om ∧ (.instanceMethod yX0_fail : Cond) ∈ Om ∧ (.selects RX0 yX0_fail yX0_fail : Cond) ∈ Om ∧ (.initialized RX0 : Cond) ∈ Om := ⟨om_24, om_25, om_26, om_4⟩
theorem mv_X0_110 : (.methodLink RX0 110 yX0_readMarks : Cond) ∈ Om ∧ (.instanceMethod yX0_readMarks : Cond) ∈ Om ∧ (.selects RX0 yX0_readMarks yX0_readMarks : Cond) ∈ Om ∧ (.initialized RX0 : Cond) ∈ Om := ⟨om_28, om_29, om_30, om_4⟩
theorem mv_X0_137 : (.methodLink RX0 137 yX0_readNumber : Cond) ∈ Om ∧ (.instanceMethod yX0_readNumber : Cond) ∈ Om ∧ (.selects RX0 yX0_readNumber yX0_readNumber : Cond) ∈ Om ∧ (.initialized RX0 : Cond) ∈ Om := ⟨om_32, om_33, om_34, om_4⟩
theorem mv_X0_141 : (.methodLink RX0 141 yX0_readUpTo : Cond) ∈ Om ∧ (.instanceMethod yX0_readUpTo : Cond) ∈ Om ∧ (.selects RX0 yX0_readUpTo yX0_readUpTo : Cond) ∈ Om ∧ (.initialized RX0 : Cond) ∈ Om := ⟨om_36, om_37, om_38, om_4⟩
theorem mv_X0_164 : (.methodLink RX0 164 yX10_isArray : Cond) ∈ Om ∧ (.static yX10_isArray : Cond) ∈ Om ∧ (.initialized RX10 : Cond) ∈ Om := ⟨om_40, om_41, om_42⟩
theorem mv_X10_86 : (.methodLink RX10 86 yX10_isArray : Cond) ∈ Om ∧ (.static yX10_isArray : Cond) ∈ Om ∧ (.initialized RX10 : Cond) ∈ Om := ⟨om_43, om_41, om_42⟩
theorem mv_X0_167 : (.methodLink RX0 167 yX10_slotsOf : Cond) ∈ Om ∧ (.instanceMethod yX10_slotsOf : Cond) ∈ Om ∧ (.selects RX10 yX10_slotsOf yX10_slotsOf : Cond) ∈ Om ∧ (.initialized RX10 : Cond) ∈ Om := ⟨om_45, om_46, om_47, om_42⟩
theorem mv_X0_170 : (.methodLink RX0 170 yX5_addThing : Cond) ∈ Om ∧ (.instanceMethod yX5_addThing : Cond) ∈ Om ∧ (.selects RX5 yX5_addThing yX5_addThing : Cond) ∈ Om ∧ (.initialized RX5 : Cond) ∈ Om := ⟨om_49, om_50, om_51, om_22⟩
theorem mv_X10_69 : (.methodLink RX10 69 yX10_isClass : Cond) ∈ Om ∧ (.instanceMethod yX10_isClass : Cond) ∈ Om ∧ (.selects RX10 yX10_isClass yX10_isClass : Cond) ∈ Om ∧ (.initialized RX10 : Cond) ∈ Om := ⟨om_53, om_54, om_55, om_42⟩
theorem mv_X0_160 : (.methodLink RX0 160 yX10_isType : Cond) ∈ Om ∧ (.instanceMethod yX10_isType : Cond) ∈ Om ∧ (.selects RX10 yX10_isType yX10_isType : Cond) ∈ Om ∧ (.initialized RX10 : Cond) ∈ Om := ⟨om_57, om_58, om_59, om_42⟩
theorem mv_X0_145 : (.methodLink RX0 145 yX0_readThing : Cond) ∈ Om ∧ (.instanceMethod yX0_readThing : Cond) ∈ Om ∧ (.selects RX0 yX0_readThing yX0_readThing : Cond) ∈ Om ∧ (.initialized RX0 : Cond) ∈ Om := ⟨om_61, om_62, om_63, om_4⟩
theorem mv_X0_174 : (.methodLink RX0 174 yX10_kindAt : Cond) ∈ Om ∧ (.instanceMethod yX10_kindAt : Cond) ∈ Om ∧ (.selects RX10 yX10_kindAt yX10_kindAt : Cond) ∈ Om ∧ (.initialized RX10 : Cond) ∈ Om := ⟨om_65, om_66, om_67, om_42⟩
theorem mv_X0_177 : (.methodLink RX0 177 yX10_isNumber : Cond) ∈ Om ∧ (.static yX10_isNumber : Cond) ∈ Om ∧ (.initialized RX10 : Cond) ∈ Om := ⟨om_70, om_71, om_42⟩
theorem mv_X0_149 : (.methodLink RX0 149 yX0_readSlots : Cond) ∈ Om ∧ (.instanceMethod yX0_readSlots : Cond) ∈ Om ∧ (.selects RX0 yX0_readSlots yX0_readSlots : Cond) ∈ Om ∧ (.initialized RX0 : Cond) ∈ Om := ⟨om_73, om_74, om_75, om_4⟩
theorem mv_X0_114 : (.methodLink RX0 114 yX0_readThings : Cond) ∈ Om ∧ (.instanceMethod yX0_readThings : Cond) ∈ Om ∧ (.selects RX0 yX0_readThings yX0_readThings : Cond) ∈ Om ∧ (.initialized RX0 : Cond) ∈ Om := ⟨om_77, om_78, om_79, om_4⟩
theorem mv_X0_183 : (.methodLink RX0 183 yX10_linkAt : Cond) ∈ Om ∧ (.instanceMethod yX10_linkAt : Cond) ∈ Om ∧ (.selects RX10 yX10_linkAt yX10_linkAt : Cond) ∈ Om ∧ (.initialized RX10 : Cond) ∈ Om := ⟨om_81, om_82, om_83, om_42⟩
theorem mv_X10_92 : (.methodLink RX10 92 yX10_isHeir : Cond) ∈ Om ∧ (.instanceMethod yX10_isHeir : Cond) ∈ Om ∧ (.selects RX10 yX10_isHeir yX10_isHeir : Cond) ∈ Om ∧ (.initialized RX10 : Cond) ∈ Om := ⟨om_85, om_86, om_87, om_42⟩
theorem mv_X0_186 : (.methodLink RX0 186 yX10_fits : Cond) ∈ Om ∧ (.instanceMethod yX10_fits : Cond) ∈ Om ∧ (.selects RX10 yX10_fits yX10_fits : Cond) ∈ Om ∧ (.initialized RX10 : Cond) ∈ Om := ⟨om_89, om_90, om_91, om_42⟩
theorem mv_X0_118 : (.methodLink RX0 118 yX0_checkLinks : Cond) ∈ Om ∧ (.instanceMethod yX0_checkLinks : Cond) ∈ Om ∧ (.selects RX0 yX0_checkLinks yX0_checkLinks : Cond) ∈ Om ∧ (.initialized RX0 : Cond) ∈ Om := ⟨om_94, om_95, om_96, om_4⟩
theorem mv_X0_189 : (.methodLink RX0 189 yX5_addRoot : Cond) ∈ Om ∧ (.instanceMethod yX5_addRoot : Cond) ∈ Om ∧ (.selects RX5 yX5_addRoot yX5_addRoot : Cond) ∈ Om ∧ (.initialized RX5 : Cond) ∈ Om := ⟨om_98, om_99, om_100, om_22⟩
theorem mv_X0_121 : (.methodLink RX0 121 yX0_readRoots : Cond) ∈ Om ∧ (.instanceMethod yX0_readRoots : Cond) ∈ Om ∧ (.selects RX0 yX0_readRoots yX0_readRoots : Cond) ∈ Om ∧ (.initialized RX0 : Cond) ∈ Om := ⟨om_102, om_103, om_104, om_4⟩
theorem mv_X0_124 : (.methodLink RX0 124 yX0_readCheck : Cond) ∈ Om ∧ (.instanceMethod yX0_readCheck : Cond) ∈ Om ∧ (.selects RX0 yX0_readCheck yX0_readCheck : Cond) ∈ Om ∧ (.initialized RX0 : Cond) ∈ Om := ⟨om_106, om_107, om_108, om_4⟩
theorem mv_X5_148 : (.methodLink RX5 148 yX5_setWay : Cond) ∈ Om ∧ (.instanceMethod yX5_setWay : Cond) ∈ Om ∧ (.selects RX5 yX5_setWay yX5_setWay : Cond) ∈ Om ∧ (.initialized RX5 : Cond) ∈ Om := ⟨om_110, om_111, om_112, om_22⟩
theorem mv_X0_193 : (.methodLink RX0 193 yX5_findWays : Cond) ∈ Om ∧ (.instanceMethod yX5_findWays : Cond) ∈ Om ∧ (.selects RX5 yX5_findWays yX5_findWays : Cond) ∈ Om ∧ (.initialized RX5 : Cond) ∈ Om := ⟨om_114, om_115, om_116, om_22⟩
theorem mv_X0_127 : (.methodLink RX0 127 yX0_checkWalk : Cond) ∈ Om ∧ (.instanceMethod yX0_checkWalk : Cond) ∈ Om ∧ (.selects RX0 yX0_checkWalk yX0_checkWalk : Cond) ∈ Om ∧ (.initialized RX0 : Cond) ∈ Om := ⟨om_118, om_119, om_120, om_4⟩
theorem mv_X0_212 : (.methodLink RX0 212 yX0_recordEnd : Cond) ∈ Om ∧ (.instanceMethod yX0_recordEnd : Cond) ∈ Om ∧ (.selects RX0 yX0_recordEnd yX0_recordEnd : Cond) ∈ Om ∧ (.initialized RX0 : Cond) ∈ Om := ⟨om_129, om_130, om_131, om_4⟩
theorem mv_X0_215 : (.methodLink RX0 215 yX0_decode : Cond) ∈ Om ∧ (.instanceMethod yX0_decode : Cond) ∈ Om ∧ (.selects RX0 yX0_decode yX0_decode : Cond) ∈ Om ∧ (.initialized RX0 : Cond) ∈ Om := ⟨om_133, om_134, om_135, om_4⟩
theorem mv_X1_55 : (.methodLink RX1 55 yJ7_fill_d0a16 : Cond) ∈ Om ∧ (.static yJ7_fill_d0a16 : Cond) ∈ Om ∧ (.initialized RJ7 : Cond) ∈ Om := ⟨om_138, om_139, om_140⟩
theorem mv_X1_92 : (.methodLink RX1 92 yX1_addFact : Cond) ∈ Om ∧ (.instanceMethod yX1_addFact : Cond) ∈ Om ∧ (.selects RX1 yX1_addFact yX1_addFact : Cond) ∈ Om ∧ (.initialized RX1 : Cond) ∈ Om := ⟨om_142, om_143, om_144, om_145⟩
theorem mv_X1_61 : (.methodLink RX1 61 yX1_addGiven : Cond) ∈ Om ∧ (.instanceMethod yX1_addGiven : Cond) ∈ Om ∧ (.selects RX1 yX1_addGiven yX1_addGiven : Cond) ∈ Om ∧ (.initialized RX1 : Cond) ∈ Om := ⟨om_148, om_149, om_150, om_145⟩
theorem mv_X1_108 : (.methodLink RX1 108 yX10_isNamed : Cond) ∈ Om ∧ (.instanceMethod yX10_isNamed : Cond) ∈ Om ∧ (.selects RX10 yX10_isNamed yX10_isNamed : Cond) ∈ Om ∧ (.initialized RX10 : Cond) ∈ Om := ⟨om_152, om_153, om_154, om_42⟩
theorem mv_X1_65 : (.methodLink RX1 65 yX1_findClasses : Cond) ∈ Om ∧ (.instanceMethod yX1_findClasses : Cond) ∈ Om ∧ (.selects RX1 yX1_findClasses yX1_findClasses : Cond) ∈ Om ∧ (.initialized RX1 : Cond) ∈ Om := ⟨om_156, om_157, om_158, om_145⟩
theorem mv_X1_114 : (.methodLink RX1 114 yX1_candidates : Cond) ∈ Om ∧ (.instanceMethod yX1_candidates : Cond) ∈ Om ∧ (.selects RX1 yX1_candidates yX1_candidates : Cond) ∈ Om ∧ (.initialized RX1 : Cond) ∈ Om := ⟨om_162, om_163, om_164, om_145⟩
theorem mv_X1_76 : (.methodLink RX1 76 yX1_tryThings : Cond) ∈ Om ∧ (.instanceMethod yX1_tryThings : Cond) ∈ Om ∧ (.selects RX1 yX1_tryThings yX1_tryThings : Cond) ∈ Om ∧ (.initialized RX1 : Cond) ∈ Om := ⟨om_166, om_167, om_168, om_145⟩
theorem mv_X1_139 : (.methodLink RX1 139 yJ13_bitCount_95d88 : Cond) ∈ Om ∧ (.static yJ13_bitCount_95d88 : Cond) ∈ Om ∧ (.initialized RJ13 : Cond) ∈ Om := ⟨om_173, om_174, om_175⟩
theorem mv_X2_51 : (.methodLink RX2 51 yX10_slotsOf : Cond) ∈ Om ∧ (.instanceMethod yX10_slotsOf : Cond) ∈ Om ∧ (.selects RX10 yX10_slotsOf yX10_slotsOf : Cond) ∈ Om ∧ (.initialized RX10 : Cond) ∈ Om := ⟨om_176, om_46, om_47, om_42⟩
theorem mv_X2_55 : (.methodLink RX2 55 yX2_isThere : Cond) ∈ Om ∧ (.instanceMethod yX2_isThere : Cond) ∈ Om ∧ (.selects RX2 yX2_isThere yX2_isThere : Cond) ∈ Om ∧ (.initialized RX2 : Cond) ∈ Om := ⟨om_178, om_179, om_180, om_181⟩
theorem mv_X2_59 : (.methodLink RX2 59 yX2_slotsOf : Cond) ∈ Om ∧ (.instanceMethod yX2_slotsOf : Cond) ∈ Om ∧ (.selects RX2 yX2_slotsOf yX2_slotsOf : Cond) ∈ Om ∧ (.initialized RX2 : Cond) ∈ Om := ⟨om_183, om_184, om_185, om_181⟩
theorem mv_X2_71 : (.methodLink RX2 71 yX10_fits : Cond) ∈ Om ∧ (.instanceMethod yX10_fits : Cond) ∈ Om ∧ (.selects RX10 yX10_fits yX10_fits : Cond) ∈ Om ∧ (.initialized RX10 : Cond) ∈ Om := ⟨om_187, om_90, om_91, om_42⟩
theorem mv_X2_65 : (.methodLink RX2 65 yX10_isNumber : Cond) ∈ Om ∧ (.static yX10_isNumber : Cond) ∈ Om ∧ (.initialized RX10 : Cond) ∈ Om := ⟨om_188, om_71, om_42⟩
theorem mv_X2_78 : (.methodLink RX2 78 yX10_use : Cond) ∈ Om ∧ (.instanceMethod yX10_use : Cond) ∈ Om ∧ (.selects RX10 yX10_use yX10_use : Cond) ∈ Om ∧ (.initialized RX10 : Cond) ∈ Om := ⟨om_190, om_191, om_192, om_42⟩
theorem mv_X2_82 : (.methodLink RX2 82 yX10_kindAt : Cond) ∈ Om ∧ (.instanceMethod yX10_kindAt : Cond) ∈ Om ∧ (.selects RX10 yX10_kindAt yX10_kindAt : Cond) ∈ Om ∧ (.initialized RX10 : Cond) ∈ Om := ⟨om_193, om_66, om_67, om_42⟩
theorem mv_X2_85 : (.methodLink RX2 85 yX10_firstValue : Cond) ∈ Om ∧ (.static yX10_firstValue : Cond) ∈ Om ∧ (.initialized RX10 : Cond) ∈ Om := ⟨om_196, om_197, om_42⟩
theorem mv_X2_99 : (.methodLink RX2 99 yX10_ownFields : Cond) ∈ Om ∧ (.instanceMethod yX10_ownFields : Cond) ∈ Om ∧ (.selects RX10 yX10_ownFields yX10_ownFields : Cond) ∈ Om ∧ (.initialized RX10 : Cond) ∈ Om := ⟨om_199, om_200, om_201, om_42⟩
theorem mv_X2_103 : (.methodLink RX2 103 yX10_isLinkStatic : Cond) ∈ Om ∧ (.instanceMethod yX10_isLinkStatic : Cond) ∈ Om ∧ (.selects RX10 yX10_isLinkStatic yX10_isLinkStatic : Cond) ∈ Om ∧ (.initialized RX10 : Cond) ∈ Om := ⟨om_203, om_204, om_205, om_42⟩
theorem mv_X2_95 : (.methodLink RX2 95 yX2_fitsSwapped : Cond) ∈ Om ∧ (.instanceMethod yX2_fitsSwapped : Cond) ∈ Om ∧ (.selects RX2 yX2_fitsSwapped yX2_fitsSwapped : Cond) ∈ Om ∧ (.initialized RX2 : Cond) ∈ Om := ⟨om_207, om_208, om_209, om_181⟩
theorem mv_X2_92 : (.methodLink RX2 92 yX10_linkAt : Cond) ∈ Om ∧ (.instanceMethod yX10_linkAt : Cond) ∈ Om ∧ (.selects RX10 yX10_linkAt yX10_linkAt : Cond) ∈ Om ∧ (.initialized RX10 : Cond) ∈ Om := ⟨om_210, om_82, om_83, om_42⟩
theorem mv_J7_13 : (.methodLink RJ7 13 yJ7_rangeCheck_23922 : Cond) ∈ Om ∧ (.static yJ7_rangeCheck_23922 : Cond) ∈ Om ∧ (.initialized RJ7 : Cond) ∈ Om := ⟨om_212, om_213, om_140⟩
theorem mv_X2_109 : (.methodLink RX2 109 yJ7_fill_fda19 : Cond) ∈ Om ∧ (.static yJ7_fill_fda19 : Cond) ∈ Om ∧ (.initialized RJ7 : Cond) ∈ Om := ⟨om_215, om_216, om_140⟩
theorem mv_X2_115 : (.methodLink RX2 115 yX2_meet : Cond) ∈ Om ∧ (.instanceMethod yX2_meet : Cond) ∈ Om ∧ (.selects RX2 yX2_meet yX2_meet : Cond) ∈ Om ∧ (.initialized RX2 : Cond) ∈ Om := ⟨om_218, om_219, om_220, om_181⟩
theorem mv_X2_119 : (.methodLink RX2 119 yX2_clearMarks : Cond) ∈ Om ∧ (.instanceMethod yX2_clearMarks : Cond) ∈ Om ∧ (.selects RX2 yX2_clearMarks yX2_clearMarks : Cond) ∈ Om ∧ (.initialized RX2 : Cond) ∈ Om := ⟨om_222, om_223, om_224, om_181⟩
theorem mv_X2_122 : (.methodLink RX2 122 yX2_meetRoots : Cond) ∈ Om ∧ (.instanceMethod yX2_meetRoots : Cond) ∈ Om ∧ (.selects RX2 yX2_meetRoots yX2_meetRoots : Cond) ∈ Om ∧ (.initialized RX2 : Cond) ∈ Om := ⟨om_226, om_227, om_228, om_181⟩
theorem mv_X2_128 : (.methodLink RX2 128 yX2_moveSlots : Cond) ∈ Om ∧ (.instanceMethod yX2_moveSlots : Cond) ∈ Om ∧ (.selects RX2 yX2_moveSlots yX2_moveSlots : Cond) ∈ Om ∧ (.initialized RX2 : Cond) ∈ Om := ⟨om_230, om_231, om_232, om_181⟩
theorem mv_X2_125 : (.methodLink RX2 125 yX2_meetLinks : Cond) ∈ Om ∧ (.instanceMethod yX2_meetLinks : Cond) ∈ Om ∧ (.selects RX2 yX2_meetLinks yX2_meetLinks : Cond) ∈ Om ∧ (.initialized RX2 : Cond) ∈ Om := ⟨om_234, om_235, om_236, om_181⟩
theorem mv_X2_144 : (.methodLink RX2 144 yX10_isApart : Cond) ∈ Om ∧ (.instanceMethod yX10_isApart : Cond) ∈ Om ∧ (.selects RX10 yX10_isApart yX10_isApart : Cond) ∈ Om ∧ (.initialized RX10 : Cond) ∈ Om := ⟨om_238, om_239, om_240, om_42⟩
theorem mv_X2_132 : (.methodLink RX2 132 yX2_walkToCopy : Cond) ∈ Om ∧ (.instanceMethod yX2_walkToCopy : Cond) ∈ Om ∧ (.selects RX2 yX2_walkToCopy yX2_walkToCopy : Cond) ∈ Om ∧ (.initialized RX2 : Cond) ∈ Om := ⟨om_242, om_243, om_244, om_181⟩
theorem mv_X2_135 : (.methodLink RX2 135 yX2_hasRoom : Cond) ∈ Om ∧ (.instanceMethod yX2_hasRoom : Cond) ∈ Om ∧ (.selects RX2 yX2_hasRoom yX2_hasRoom : Cond) ∈ Om ∧ (.initialized RX2 : Cond) ∈ Om := ⟨om_246, om_247, om_248, om_181⟩
theorem mv_X2_141 : (.methodLink RX2 141 yX2_copySlots : Cond) ∈ Om ∧ (.instanceMethod yX2_copySlots : Cond) ∈ Om ∧ (.selects RX2 yX2_copySlots yX2_copySlots : Cond) ∈ Om ∧ (.initialized RX2 : Cond) ∈ Om := ⟨om_250, om_251, om_252, om_181⟩
theorem mv_X2_138 : (.methodLink RX2 138 yX2_create : Cond) ∈ Om ∧ (.instanceMethod yX2_create : Cond) ∈ Om ∧ (.selects RX2 yX2_create yX2_create : Cond) ∈ Om ∧ (.initialized RX2 : Cond) ∈ Om := ⟨om_254, om_255, om_256, om_181⟩
theorem mv_X3_49 : (.methodLink RX3 49 yX3_remember : Cond) ∈ Om ∧ (.instanceMethod yX3_remember : Cond) ∈ Om ∧ (.selects RX3 yX3_remember yX3_remember : Cond) ∈ Om ∧ (.initialized RX3 : Cond) ∈ Om := ⟨om_258, om_259, om_260, om_261⟩
theorem mv_X3_125 : (.methodLink RX3 125 yX10_firstValue : Cond) ∈ Om ∧ (.static yX10_firstValue : Cond) ∈ Om ∧ (.initialized RX10 : Cond) ∈ Om := ⟨om_262, om_197, om_42⟩
theorem mv_X3_77 : (.methodLink RX3 77 yX3_isCase : Cond) ∈ Om ∧ (.instanceMethod yX3_isCase : Cond) ∈ Om ∧ (.selects RX3 yX3_isCase yX3_isCase : Cond) ∈ Om ∧ (.initialized RX3 : Cond) ∈ Om := ⟨om_265, om_266, om_267, om_261⟩
theorem mv_X3_81 : (.methodLink RX3 81 yX3_addRow : Cond) ∈ Om ∧ (.instanceMethod yX3_addRow : Cond) ∈ Om ∧ (.selects RX3 yX3_addRow yX3_addRow : Cond) ∈ Om ∧ (.initialized RX3 : Cond) ∈ Om := ⟨om_269, om_270, om_271, om_261⟩
theorem mv_X3_69 : (.methodLink RX3 69 yX10_isArray : Cond) ∈ Om ∧ (.static yX10_isArray : Cond) ∈ Om ∧ (.initialized RX10 : Cond) ∈ Om := ⟨om_272, om_41, om_42⟩
theorem mv_X3_73 : (.methodLink RX3 73 yX10_isHeir : Cond) ∈ Om ∧ (.instanceMethod yX10_isHeir : Cond) ∈ Om ∧ (.selects RX10 yX10_isHeir yX10_isHeir : Cond) ∈ Om ∧ (.initialized RX10 : Cond) ∈ Om := ⟨om_273, om_86, om_87, om_42⟩
theorem mv_X3_94 : (.methodLink RX3 94 yX2_slotsOf : Cond) ∈ Om ∧ (.instanceMethod yX2_slotsOf : Cond) ∈ Om ∧ (.selects RX2 yX2_slotsOf yX2_slotsOf : Cond) ∈ Om ∧ (.initialized RX2 : Cond) ∈ Om := ⟨om_274, om_184, om_185, om_181⟩
theorem mv_X3_101 : (.methodLink RX3 101 yX3_writeSlot : Cond) ∈ Om ∧ (.instanceMethod yX3_writeSlot : Cond) ∈ Om ∧ (.selects RX3 yX3_writeSlot yX3_writeSlot : Cond) ∈ Om ∧ (.initialized RX3 : Cond) ∈ Om := ⟨om_276, om_277, om_278, om_261⟩
theorem mv_X3_105 : (.methodLink RX3 105 yX10_ownFields : Cond) ∈ Om ∧ (.instanceMethod yX10_ownFields : Cond) ∈ Om ∧ (.selects RX10 yX10_ownFields yX10_ownFields : Cond) ∈ Om ∧ (.initialized RX10 : Cond) ∈ Om := ⟨om_279, om_200, om_201, om_42⟩
theorem mv_X3_109 : (.methodLink RX3 109 yX10_isLinkStatic : Cond) ∈ Om ∧ (.instanceMethod yX10_isLinkStatic : Cond) ∈ Om ∧ (.selects RX10 yX10_isLinkStatic yX10_isLinkStatic : Cond) ∈ Om ∧ (.initialized RX10 : Cond) ∈ Om := ⟨om_280, om_204, om_205, om_42⟩
theorem mv_X3_112 : (.methodLink RX3 112 yX3_writeStatic : Cond) ∈ Om ∧ (.instanceMethod yX3_writeStatic : Cond) ∈ Om ∧ (.selects RX3 yX3_writeStatic yX3_writeStatic : Cond) ∈ Om ∧ (.initialized RX3 : Cond) ∈ Om := ⟨om_282, om_283, om_284, om_261⟩
theorem mv_X4_71 : (.methodLink RX4 71 yX4_isTrue : Cond) ∈ Om ∧ (.instanceMethod yX4_isTrue : Cond) ∈ Om ∧ (.selects RX4 yX4_isTrue yX4_isTrue : Cond) ∈ Om ∧ (.initialized RX4 : Cond) ∈ Om := ⟨om_286, om_287, om_288, om_289⟩
theorem mv_X4_139 : (.methodLink RX4 139 yX4_push : Cond) ∈ Om ∧ (.instanceMethod yX4_push : Cond) ∈ Om ∧ (.selects RX4 yX4_push yX4_push : Cond) ∈ Om ∧ (.initialized RX4 : Cond) ∈ Om := ⟨om_292, om_293, om_294, om_289⟩
theorem mv_X4_248 : (.methodLink RX4 248 yX4_decide : Cond) ∈ Om ∧ (.instanceMethod yX4_decide : Cond) ∈ Om ∧ (.selects RX4 yX4_decide yX4_decide : Cond) ∈ Om ∧ (.initialized RX4 : Cond) ∈ Om := ⟨om_296, om_297, om_298, om_289⟩
theorem mv_X4_242 : (.methodLink RX4 242 yX4_giveAt : Cond) ∈ Om ∧ (.instanceMethod yX4_giveAt : Cond) ∈ Om ∧ (.selects RX4 yX4_giveAt yX4_giveAt : Cond) ∈ Om ∧ (.initialized RX4 : Cond) ∈ Om := ⟨om_300, om_301, om_302, om_289⟩
theorem mv_X4_269 : (.methodLink RX4 269 yX4_nextThing : Cond) ∈ Om ∧ (.instanceMethod yX4_nextThing : Cond) ∈ Om ∧ (.selects RX4 yX4_nextThing yX4_nextThing : Cond) ∈ Om ∧ (.initialized RX4 : Cond) ∈ Om := ⟨om_304, om_305, om_306, om_289⟩
theorem mv_X4_239 : (.methodLink RX4 239 yX4_addReached : Cond) ∈ Om ∧ (.instanceMethod yX4_addReached : Cond) ∈ Om ∧ (.selects RX4 yX4_addReached yX4_addReached : Cond) ∈ Om ∧ (.initialized RX4 : Cond) ∈ Om := ⟨om_309, om_310, om_311, om_289⟩
theorem mv_X4_266 : (.methodLink RX4 266 yX4_nextReached : Cond) ∈ Om ∧ (.instanceMethod yX4_nextReached : Cond) ∈ Om ∧ (.selects RX4 yX4_nextReached yX4_nextReached : Cond) ∈ Om ∧ (.initialized RX4 : Cond) ∈ Om := ⟨om_313, om_314, om_315, om_289⟩
theorem mv_X4_251 : (.methodLink RX4 251 yX4_giveNext : Cond) ∈ Om ∧ (.instanceMethod yX4_giveNext : Cond) ∈ Om ∧ (.selects RX4 yX4_giveNext yX4_giveNext : Cond) ∈ Om ∧ (.initialized RX4 : Cond) ∈ Om := ⟨om_317, om_318, om_319, om_289⟩
theorem mv_X4_274 : (.methodLink RX4 274 yX4_addNumber : Cond) ∈ Om ∧ (.instanceMethod yX4_addNumber : Cond) ∈ Om ∧ (.selects RX4 yX4_addNumber yX4_addNumber : Cond) ∈ Om ∧ (.initialized RX4 : Cond) ∈ Om := ⟨om_322, om_323, om_324, om_289⟩
theorem mv_X4_254 : (.methodLink RX4 254 yX4_addUp : Cond) ∈ Om ∧ (.instanceMethod yX4_addUp : Cond) ∈ Om ∧ (.selects RX4 yX4_addUp yX4_addUp : Cond) ∈ Om ∧ (.initialized RX4 : Cond) ∈ Om := ⟨om_326, om_327, om_328, om_289⟩
theorem mv_X4_148 : (.methodLink RX4 148 yX4_pushTruth : Cond) ∈ Om ∧ (.instanceMethod yX4_pushTruth : Cond) ∈ Om ∧ (.selects RX4 yX4_pushTruth yX4_pushTruth : Cond) ∈ Om ∧ (.initialized RX4 : Cond) ∈ Om := ⟨om_330, om_331, om_332, om_289⟩
theorem mv_X4_257 : (.methodLink RX4 257 yX4_finish : Cond) ∈ Om ∧ (.instanceMethod yX4_finish : Cond) ∈ Om ∧ (.selects RX4 yX4_finish yX4_finish : Cond) ∈ Om ∧ (.initialized RX4 : Cond) ∈ Om := ⟨om_334, om_335, om_336, om_289⟩
theorem mv_X4_263 : (.methodLink RX4 263 yX4_addRow : Cond) ∈ Om ∧ (.instanceMethod yX4_addRow : Cond) ∈ Om ∧ (.selects RX4 yX4_addRow yX4_addRow : Cond) ∈ Om ∧ (.initialized RX4 : Cond) ∈ Om := ⟨om_338, om_339, om_340, om_289⟩
theorem mv_X4_135 : (.methodLink RX4 135 yX4_jump : Cond) ∈ Om ∧ (.instanceMethod yX4_jump : Cond) ∈ Om ∧ (.selects RX4 yX4_jump yX4_jump : Cond) ∈ Om ∧ (.initialized RX4 : Cond) ∈ Om := ⟨om_342, om_343, om_344, om_289⟩
theorem mv_X4_180 : (.methodLink RX4 180 yX10_isNamed : Cond) ∈ Om ∧ (.instanceMethod yX10_isNamed : Cond) ∈ Om ∧ (.selects RX10 yX10_isNamed yX10_isNamed : Cond) ∈ Om ∧ (.initialized RX10 : Cond) ∈ Om := ⟨om_345, om_153, om_154, om_42⟩
theorem mv_X4_217 : (.methodLink RX4 217 yX4_classesNamed : Cond) ∈ Om ∧ (.instanceMethod yX4_classesNamed : Cond) ∈ Om ∧ (.selects RX4 yX4_classesNamed yX4_classesNamed : Cond) ∈ Om ∧ (.initialized RX4 : Cond) ∈ Om := ⟨om_347, om_348, om_349, om_289⟩
theorem mv_X4_226 : (.methodLink RX4 226 yX4_beginFrom : Cond) ∈ Om ∧ (.instanceMethod yX4_beginFrom : Cond) ∈ Om ∧ (.selects RX4 yX4_beginFrom yX4_beginFrom : Cond) ∈ Om ∧ (.initialized RX4 : Cond) ∈ Om := ⟨om_351, om_352, om_353, om_289⟩
theorem mv_X4_132 : (.methodLink RX4 132 yX4_beginSet : Cond) ∈ Om ∧ (.instanceMethod yX4_beginSet : Cond) ∈ Om ∧ (.selects RX4 yX4_beginSet yX4_beginSet : Cond) ∈ Om ∧ (.initialized RX4 : Cond) ∈ Om := ⟨om_355, om_356, om_357, om_289⟩
theorem mv_X4_211 : (.methodLink RX4 211 yX4_isLink : Cond) ∈ Om ∧ (.static yX4_isLink : Cond) ∈ Om ∧ (.initialized RX4 : Cond) ∈ Om := ⟨om_359, om_360, om_289⟩
theorem mv_X4_200 : (.methodLink RX4 200 yX4_compare : Cond) ∈ Om ∧ (.instanceMethod yX4_compare : Cond) ∈ Om ∧ (.selects RX4 yX4_compare yX4_compare : Cond) ∈ Om ∧ (.initialized RX4 : Cond) ∈ Om := ⟨om_362, om_363, om_364, om_289⟩
theorem mv_X4_214 : (.methodLink RX4 214 yX4_divide : Cond) ∈ Om ∧ (.instanceMethod yX4_divide : Cond) ∈ Om ∧ (.selects RX4 yX4_divide yX4_divide : Cond) ∈ Om ∧ (.initialized RX4 : Cond) ∈ Om := ⟨om_366, om_367, om_368, om_289⟩
theorem mv_X4_207 : (.methodLink RX4 207 yX4_reckon : Cond) ∈ Om ∧ (.instanceMethod yX4_reckon : Cond) ∈ Om ∧ (.selects RX4 yX4_reckon yX4_reckon : Cond) ∈ Om ∧ (.initialized RX4 : Cond) ∈ Om := ⟨om_370, om_371, om_372, om_289⟩
theorem mv_X4_163 : (.methodLink RX4 163 yX10_isArray : Cond) ∈ Om ∧ (.static yX10_isArray : Cond) ∈ Om ∧ (.initialized RX10 : Cond) ∈ Om := ⟨om_373, om_41, om_42⟩
theorem mv_X4_188 : (.methodLink RX4 188 yX4_pushSlot : Cond) ∈ Om ∧ (.instanceMethod yX4_pushSlot : Cond) ∈ Om ∧ (.selects RX4 yX4_pushSlot yX4_pushSlot : Cond) ∈ Om ∧ (.initialized RX4 : Cond) ∈ Om := ⟨om_375, om_376, om_377, om_289⟩
theorem mv_X4_204 : (.methodLink RX4 204 yX4_pushElement : Cond) ∈ Om ∧ (.instanceMethod yX4_pushElement : Cond) ∈ Om ∧ (.selects RX4 yX4_pushElement yX4_pushElement : Cond) ∈ Om ∧ (.initialized RX4 : Cond) ∈ Om := ⟨om_379, om_380, om_381, om_289⟩
theorem mv_X4_128 : (.methodLink RX4 128 yX4_doTwo : Cond) ∈ Om ∧ (.instanceMethod yX4_doTwo : Cond) ∈ Om ∧ (.selects RX4 yX4_doTwo yX4_doTwo : Cond) ∈ Om ∧ (.initialized RX4 : Cond) ∈ Om := ⟨om_383, om_384, om_385, om_289⟩
theorem mv_X10_89 : (.methodLink RX10 89 yX10_kindAt : Cond) ∈ Om ∧ (.instanceMethod yX10_kindAt : Cond) ∈ Om ∧ (.selects RX10 yX10_kindAt yX10_kindAt : Cond) ∈ Om ∧ (.initialized RX10 : Cond) ∈ Om := ⟨om_386, om_66, om_67, om_42⟩
theorem mv_X4_171 : (.methodLink RX4 171 yX10_sizeOf : Cond) ∈ Om ∧ (.instanceMethod yX10_sizeOf : Cond) ∈ Om ∧ (.selects RX10 yX10_sizeOf yX10_sizeOf : Cond) ∈ Om ∧ (.initialized RX10 : Cond) ∈ Om := ⟨om_388, om_389, om_390, om_42⟩
theorem mv_X4_184 : (.methodLink RX4 184 yX10_slotNamed : Cond) ∈ Om ∧ (.instanceMethod yX10_slotNamed : Cond) ∈ Om ∧ (.selects RX10 yX10_slotNamed yX10_slotNamed : Cond) ∈ Om ∧ (.initialized RX10 : Cond) ∈ Om := ⟨om_392, om_393, om_394, om_42⟩
theorem mv_X4_156 : (.methodLink RX4 156 yX4_lookAt : Cond) ∈ Om ∧ (.instanceMethod yX4_lookAt : Cond) ∈ Om ∧ (.selects RX4 yX4_lookAt yX4_lookAt : Cond) ∈ Om ∧ (.initialized RX4 : Cond) ∈ Om := ⟨om_396, om_397, om_398, om_289⟩
theorem mv_X4_124 : (.methodLink RX4 124 yX4_doOne : Cond) ∈ Om ∧ (.instanceMethod yX4_doOne : Cond) ∈ Om ∧ (.selects RX4 yX4_doOne yX4_doOne : Cond) ∈ Om ∧ (.initialized RX4 : Cond) ∈ Om := ⟨om_400, om_401, om_402, om_289⟩
theorem mv_X4_152 : (.methodLink RX4 152 yX4_pushThing : Cond) ∈ Om ∧ (.instanceMethod yX4_pushThing : Cond) ∈ Om ∧ (.selects RX4 yX4_pushThing yX4_pushThing : Cond) ∈ Om ∧ (.initialized RX4 : Cond) ∈ Om := ⟨om_404, om_405, om_406, om_289⟩
theorem mv_X4_117 : (.methodLink RX4 117 yX4_doLeaf : Cond) ∈ Om ∧ (.instanceMethod yX4_doLeaf : Cond) ∈ Om ∧ (.selects RX4 yX4_doLeaf yX4_doLeaf : Cond) ∈ Om ∧ (.initialized RX4 : Cond) ∈ Om := ⟨om_408, om_409, om_410, om_289⟩
theorem mv_X4_110 : (.methodLink RX4 110 yX4_execute : Cond) ∈ Om ∧ (.instanceMethod yX4_execute : Cond) ∈ Om ∧ (.selects RX4 yX4_execute yX4_execute : Cond) ∈ Om ∧ (.initialized RX4 : Cond) ∈ Om := ⟨om_412, om_413, om_414, om_289⟩
theorem mv_X8_67 : (.methodLink RX8 67 yJ7_fill_fda19 : Cond) ∈ Om ∧ (.static yJ7_fill_fda19 : Cond) ∈ Om ∧ (.initialized RJ7 : Cond) ∈ Om := ⟨om_415, om_216, om_140⟩
theorem mv_X8_110 : (.methodLink RX8 110 yX10_sizeOf : Cond) ∈ Om ∧ (.instanceMethod yX10_sizeOf : Cond) ∈ Om ∧ (.selects RX10 yX10_sizeOf yX10_sizeOf : Cond) ∈ Om ∧ (.initialized RX10 : Cond) ∈ Om := ⟨om_417, om_389, om_390, om_42⟩
theorem mv_X8_116 : (.methodLink RX8 116 yX8_meeting : Cond) ∈ Om ∧ (.instanceMethod yX8_meeting : Cond) ∈ Om ∧ (.selects RX8 yX8_meeting yX8_meeting : Cond) ∈ Om ∧ (.initialized RX8 : Cond) ∈ Om := ⟨om_419, om_420, om_421, om_422⟩
theorem mv_X8_100 : (.methodLink RX8 100 yX8_commonDominator : Cond) ∈ Om ∧ (.instanceMethod yX8_commonDominator : Cond) ∈ Om ∧ (.selects RX8 yX8_commonDominator yX8_commonDominator : Cond) ∈ Om ∧ (.initialized RX8 : Cond) ∈ Om := ⟨om_424, om_425, om_426, om_422⟩
theorem mv_X4_103 : (.methodLink RX4 103 yX8_needDominators : Cond) ∈ Om ∧ (.instanceMethod yX8_needDominators : Cond) ∈ Om ∧ (.selects RX8 yX8_needDominators yX8_needDominators : Cond) ∈ Om ∧ (.initialized RX8 : Cond) ∈ Om := ⟨om_428, om_429, om_430, om_422⟩
theorem mv_X8_95 : (.methodLink RX8 95 yX8_addHolder : Cond) ∈ Om ∧ (.instanceMethod yX8_addHolder : Cond) ∈ Om ∧ (.selects RX8 yX8_addHolder yX8_addHolder : Cond) ∈ Om ∧ (.initialized RX8 : Cond) ∈ Om := ⟨om_433, om_434, om_435, om_422⟩
theorem mv_X4_94 : (.methodLink RX4 94 yX8_needHolders : Cond) ∈ Om ∧ (.instanceMethod yX8_needHolders : Cond) ∈ Om ∧ (.selects RX8 yX8_needHolders yX8_needHolders : Cond) ∈ Om ∧ (.initialized RX8 : Cond) ∈ Om := ⟨om_437, om_438, om_439, om_422⟩
theorem mv_X5_95 : (.methodLink RX5 95 yX5_forget : Cond) ∈ Om ∧ (.instanceMethod yX5_forget : Cond) ∈ Om ∧ (.selects RX5 yX5_forget yX5_forget : Cond) ∈ Om ∧ (.initialized RX5 : Cond) ∈ Om := ⟨om_440, om_20, om_21, om_22⟩
theorem mv_X5_111 : (.methodLink RX5 111 yX10_ownFields : Cond) ∈ Om ∧ (.instanceMethod yX10_ownFields : Cond) ∈ Om ∧ (.selects RX10 yX10_ownFields yX10_ownFields : Cond) ∈ Om ∧ (.initialized RX10 : Cond) ∈ Om := ⟨om_441, om_200, om_201, om_42⟩
theorem mv_X5_140 : (.methodLink RX5 140 yX2_slotsOf : Cond) ∈ Om ∧ (.instanceMethod yX2_slotsOf : Cond) ∈ Om ∧ (.selects RX2 yX2_slotsOf yX2_slotsOf : Cond) ∈ Om ∧ (.initialized RX2 : Cond) ∈ Om := ⟨om_443, om_184, om_185, om_181⟩
theorem mv_X5_144 : (.methodLink RX5 144 yX5_addThing : Cond) ∈ Om ∧ (.instanceMethod yX5_addThing : Cond) ∈ Om ∧ (.selects RX5 yX5_addThing yX5_addThing : Cond) ∈ Om ∧ (.initialized RX5 : Cond) ∈ Om := ⟨om_444, om_50, om_51, om_22⟩
theorem mv_X5_130 : (.methodLink RX5 130 yX5_meet : Cond) ∈ Om ∧ (.instanceMethod yX5_meet : Cond) ∈ Om ∧ (.selects RX5 yX5_meet yX5_meet : Cond) ∈ Om ∧ (.initialized RX5 : Cond) ∈ Om := ⟨om_446, om_447, om_448, om_22⟩
theorem mv_X5_124 : (.methodLink RX5 124 yX5_takeSlots : Cond) ∈ Om ∧ (.instanceMethod yX5_takeSlots : Cond) ∈ Om ∧ (.selects RX5 yX5_takeSlots yX5_takeSlots : Cond) ∈ Om ∧ (.initialized RX5 : Cond) ∈ Om := ⟨om_450, om_451, om_452, om_22⟩
theorem mv_X5_117 : (.methodLink RX5 117 yX10_isLinkStatic : Cond) ∈ Om ∧ (.instanceMethod yX10_isLinkStatic : Cond) ∈ Om ∧ (.selects RX10 yX10_isLinkStatic yX10_isLinkStatic : Cond) ∈ Om ∧ (.initialized RX10 : Cond) ∈ Om := ⟨om_453, om_204, om_205, om_42⟩
theorem mv_X5_134 : (.methodLink RX5 134 yX5_addRoot : Cond) ∈ Om ∧ (.instanceMethod yX5_addRoot : Cond) ∈ Om ∧ (.selects RX5 yX5_addRoot yX5_addRoot : Cond) ∈ Om ∧ (.initialized RX5 : Cond) ∈ Om := ⟨om_454, om_99, om_100, om_22⟩
theorem mv_X5_103 : (.methodLink RX5 103 yX5_meetRoot : Cond) ∈ Om ∧ (.instanceMethod yX5_meetRoot : Cond) ∈ Om ∧ (.selects RX5 yX5_meetRoot yX5_meetRoot : Cond) ∈ Om ∧ (.initialized RX5 : Cond) ∈ Om := ⟨om_456, om_457, om_458, om_22⟩
theorem mv_X5_155 : (.methodLink RX5 155 yX8_needHolders : Cond) ∈ Om ∧ (.instanceMethod yX8_needHolders : Cond) ∈ Om ∧ (.selects RX8 yX8_needHolders yX8_needHolders : Cond) ∈ Om ∧ (.initialized RX8 : Cond) ∈ Om := ⟨om_459, om_438, om_439, om_422⟩
theorem mv_X5_174 : (.methodLink RX5 174 yX8_needDominators : Cond) ∈ Om ∧ (.instanceMethod yX8_needDominators : Cond) ∈ Om ∧ (.selects RX8 yX8_needDominators yX8_needDominators : Cond) ∈ Om ∧ (.initialized RX8 : Cond) ∈ Om := ⟨om_460, om_429, om_430, om_422⟩
theorem mv_X5_162 : (.methodLink RX5 162 yX5_needDominators : Cond) ∈ Om ∧ (.instanceMethod yX5_needDominators : Cond) ∈ Om ∧ (.selects RX5 yX5_needDominators yX5_needDominators : Cond) ∈ Om ∧ (.initialized RX5 : Cond) ∈ Om := ⟨om_462, om_463, om_464, om_22⟩
theorem mv_X8_145 : (.methodLink RX8 145 yX8_linksItself : Cond) ∈ Om ∧ (.static yX8_linksItself : Cond) ∈ Om ∧ (.initialized RX8 : Cond) ∈ Om := ⟨om_466, om_467, om_422⟩
theorem mv_X8_123 : (.methodLink RX8 123 yX8_numberRings : Cond) ∈ Om ∧ (.instanceMethod yX8_numberRings : Cond) ∈ Om ∧ (.selects RX8 yX8_numberRings yX8_numberRings : Cond) ∈ Om ∧ (.initialized RX8 : Cond) ∈ Om := ⟨om_469, om_470, om_471, om_422⟩
theorem mv_X8_127 : (.methodLink RX8 127 yX8_enter : Cond) ∈ Om ∧ (.instanceMethod yX8_enter : Cond) ∈ Om ∧ (.selects RX8 yX8_enter yX8_enter : Cond) ∈ Om ∧ (.initialized RX8 : Cond) ∈ Om := ⟨om_473, om_474, om_475, om_422⟩
theorem mv_X8_130 : (.methodLink RX8 130 yX8_nextLink : Cond) ∈ Om ∧ (.instanceMethod yX8_nextLink : Cond) ∈ Om ∧ (.selects RX8 yX8_nextLink yX8_nextLink : Cond) ∈ Om ∧ (.initialized RX8 : Cond) ∈ Om := ⟨om_477, om_478, om_479, om_422⟩
theorem mv_X8_139 : (.methodLink RX8 139 yX8_closeRing : Cond) ∈ Om ∧ (.instanceMethod yX8_closeRing : Cond) ∈ Om ∧ (.selects RX8 yX8_closeRing yX8_closeRing : Cond) ∈ Om ∧ (.initialized RX8 : Cond) ∈ Om := ⟨om_482, om_483, om_484, om_422⟩
theorem mv_X8_119 : (.methodLink RX8 119 yX8_explore : Cond) ∈ Om ∧ (.instanceMethod yX8_explore : Cond) ∈ Om ∧ (.selects RX8 yX8_explore yX8_explore : Cond) ∈ Om ∧ (.initialized RX8 : Cond) ∈ Om := ⟨om_486, om_487, om_488, om_422⟩
theorem mv_X5_176 : (.methodLink RX5 176 yX8_needRings : Cond) ∈ Om ∧ (.instanceMethod yX8_needRings : Cond) ∈ Om ∧ (.selects RX8 yX8_needRings yX8_needRings : Cond) ∈ Om ∧ (.initialized RX8 : Cond) ∈ Om := ⟨om_490, om_491, om_492, om_422⟩
theorem mv_X5_185 : (.methodLink RX5 185 yX5_memberOf : Cond) ∈ Om ∧ (.instanceMethod yX5_memberOf : Cond) ∈ Om ∧ (.selects RX5 yX5_memberOf yX5_memberOf : Cond) ∈ Om ∧ (.initialized RX5 : Cond) ∈ Om := ⟨om_494, om_495, om_496, om_22⟩
theorem mv_X8_149 : (.methodLink RX8 149 yJ7_fill_53178 : Cond) ∈ Om ∧ (.static yJ7_fill_53178 : Cond) ∈ Om ∧ (.initialized RJ7 : Cond) ∈ Om := ⟨om_498, om_499, om_140⟩
theorem mv_X8_152 : (.methodLink RX8 152 yX8_bucketOf : Cond) ∈ Om ∧ (.static yX8_bucketOf : Cond) ∈ Om ∧ (.initialized RX8 : Cond) ∈ Om := ⟨om_503, om_504, om_422⟩
theorem mv_X8_155 : (.methodLink RX8 155 yX8_isTwin : Cond) ∈ Om ∧ (.static yX8_isTwin : Cond) ∈ Om ∧ (.initialized RX8 : Cond) ∈ Om := ⟨om_506, om_507, om_422⟩
theorem mv_X5_189 : (.methodLink RX5 189 yX8_needTwins : Cond) ∈ Om ∧ (.instanceMethod yX8_needTwins : Cond) ∈ Om ∧ (.selects RX8 yX8_needTwins yX8_needTwins : Cond) ∈ Om ∧ (.initialized RX8 : Cond) ∈ Om := ⟨om_509, om_510, om_511, om_422⟩
theorem mv_X5_198 : (.methodLink RX5 198 yX10_sizeOf : Cond) ∈ Om ∧ (.instanceMethod yX10_sizeOf : Cond) ∈ Om ∧ (.selects RX10 yX10_sizeOf yX10_sizeOf : Cond) ∈ Om ∧ (.initialized RX10 : Cond) ∈ Om := ⟨om_512, om_389, om_390, om_42⟩
theorem mv_X5_202 : (.methodLink RX5 202 yX10_isArray : Cond) ∈ Om ∧ (.static yX10_isArray : Cond) ∈ Om ∧ (.initialized RX10 : Cond) ∈ Om := ⟨om_513, om_41, om_42⟩
theorem mv_X5_205 : (.methodLink RX5 205 yX10_isHeir : Cond) ∈ Om ∧ (.instanceMethod yX10_isHeir : Cond) ∈ Om ∧ (.selects RX10 yX10_isHeir yX10_isHeir : Cond) ∈ Om ∧ (.initialized RX10 : Cond) ∈ Om := ⟨om_514, om_86, om_87, om_42⟩
theorem mv_X5_209 : (.methodLink RX5 209 yJ7_fill_fda19 : Cond) ∈ Om ∧ (.static yJ7_fill_fda19 : Cond) ∈ Om ∧ (.initialized RJ7 : Cond) ∈ Om := ⟨om_515, om_216, om_140⟩
theorem mv_X5_212 : (.methodLink RX5 212 yX5_reach : Cond) ∈ Om ∧ (.instanceMethod yX5_reach : Cond) ∈ Om ∧ (.selects RX5 yX5_reach yX5_reach : Cond) ∈ Om ∧ (.initialized RX5 : Cond) ∈ Om := ⟨om_517, om_518, om_519, om_22⟩
theorem mv_X5_215 : (.methodLink RX5 215 yX5_isSame : Cond) ∈ Om ∧ (.instanceMethod yX5_isSame : Cond) ∈ Om ∧ (.selects RX5 yX5_isSame yX5_isSame : Cond) ∈ Om ∧ (.initialized RX5 : Cond) ∈ Om := ⟨om_521, om_522, om_523, om_22⟩
theorem mv_X5_219 : (.methodLink RX5 219 yX5_pairSlots : Cond) ∈ Om ∧ (.instanceMethod yX5_pairSlots : Cond) ∈ Om ∧ (.selects RX5 yX5_pairSlots yX5_pairSlots : Cond) ∈ Om ∧ (.initialized RX5 : Cond) ∈ Om := ⟨om_525, om_526, om_527, om_22⟩
theorem mv_X9_65 : (.methodLink RX9 65 yX9_isDigit : Cond) ∈ Om ∧ (.static yX9_isDigit : Cond) ∈ Om ∧ (.initialized RX9 : Cond) ∈ Om := ⟨om_529, om_530, om_531⟩
theorem mv_X9_45 : (.methodLink RX9 45 yX9_symbolOf : Cond) ∈ Om ∧ (.static yX9_symbolOf : Cond) ∈ Om ∧ (.initialized RX9 : Cond) ∈ Om := ⟨om_533, om_534, om_531⟩
theorem mv_J0_492 : (.methodLink RJ0 492 yJ0_isLatin1_aae02 : Cond) ∈ Om ∧ (.instanceMethod yJ0_isLatin1_aae02 : Cond) ∈ Om ∧ (.selects RJ0 yJ0_isLatin1_aae02 yJ0_isLatin1_aae02 : Cond) ∈ Om ∧ (.initialized RJ0 : Cond) ∈ Om := ⟨om_538, om_539, om_540, om_541⟩
theorem mv_J0_335 : (.methodLink RJ0 335 yJ0_coder_7d493 : Cond) ∈ Om ∧ (.instanceMethod yJ0_coder_7d493 : Cond) ∈ Om ∧ (.selects RJ0 yJ0_coder_7d493 yJ0_coder_7d493 : Cond) ∈ Om ∧ (.initialized RJ0 : Cond) ∈ Om := ⟨om_544, om_545, om_546, om_541⟩
theorem mv_J0_505 : (.methodLink RJ0 505 yJ0_length_8abf5 : Cond) ∈ Om ∧ (.instanceMethod yJ0_length_8abf5 : Cond) ∈ Om ∧ (.selects RJ0 yJ0_length_8abf5 yJ0_length_8abf5 : Cond) ∈ Om ∧ (.initialized RJ0 : Cond) ∈ Om := ⟨om_548, om_549, om_550, om_541⟩
theorem mv_J1_88 : (.methodLink RJ1 88 yJ1_canEncode_9a6ad : Cond) ∈ Om ∧ (.static yJ1_canEncode_9a6ad : Cond) ∈ Om ∧ (.initialized RJ1 : Cond) ∈ Om := ⟨om_552, om_553, om_554⟩
theorem mv_J1_95 : (.methodLink RJ1 95 yJ1_indexOfChar_4cfef : Cond) ∈ Om ∧ (.static yJ1_indexOfChar_4cfef : Cond) ∈ Om ∧ (.initialized RJ1 : Cond) ∈ Om := ⟨om_558, om_559, om_554⟩
theorem mv_J0_637 : (.methodLink RJ0 637 yJ1_indexOf_4cfef : Cond) ∈ Om ∧ (.static yJ1_indexOf_4cfef : Cond) ∈ Om ∧ (.initialized RJ1 : Cond) ∈ Om := ⟨om_561, om_562, om_554⟩
theorem mv_J0_633 : (.methodLink RJ0 633 yJ0_indexOf_7cf53 : Cond) ∈ Om ∧ (.instanceMethod yJ0_indexOf_7cf53 : Cond) ∈ Om ∧ (.selects RJ0 yJ0_indexOf_7cf53 yJ0_indexOf_7cf53 : Cond) ∈ Om ∧ (.initialized RJ0 : Cond) ∈ Om := ⟨om_564, om_565, om_566, om_541⟩
theorem mv_X9_113 : (.methodLink RX9 113 yJ0_indexOf_0f7a4 : Cond) ∈ Om ∧ (.instanceMethod yJ0_indexOf_0f7a4 : Cond) ∈ Om ∧ (.selects RJ0 yJ0_indexOf_0f7a4 yJ0_indexOf_0f7a4 : Cond) ∈ Om ∧ (.initialized RJ0 : Cond) ∈ Om := ⟨om_568, om_569, om_570, om_541⟩
theorem mv_X9_100 : (.methodLink RX9 100 yX9_scanSign : Cond) ∈ Om ∧ (.instanceMethod yX9_scanSign : Cond) ∈ Om ∧ (.selects RX9 yX9_scanSign yX9_scanSign : Cond) ∈ Om ∧ (.initialized RX9 : Cond) ∈ Om := ⟨om_572, om_573, om_574, om_531⟩
theorem mv_X9_107 : (.methodLink RX9 107 yX9_keywordOf : Cond) ∈ Om ∧ (.instanceMethod yX9_keywordOf : Cond) ∈ Om ∧ (.selects RX9 yX9_keywordOf yX9_keywordOf : Cond) ∈ Om ∧ (.initialized RX9 : Cond) ∈ Om := ⟨om_576, om_577, om_578, om_531⟩
theorem mv_X9_97 : (.methodLink RX9 97 yX9_scanName : Cond) ∈ Om ∧ (.instanceMethod yX9_scanName : Cond) ∈ Om ∧ (.selects RX9 yX9_scanName yX9_scanName : Cond) ∈ Om ∧ (.initialized RX9 : Cond) ∈ Om := ⟨om_581, om_582, om_583, om_531⟩
theorem mv_X9_94 : (.methodLink RX9 94 yX9_scanNumber : Cond) ∈ Om ∧ (.instanceMethod yX9_scanNumber : Cond) ∈ Om ∧ (.selects RX9 yX9_scanNumber yX9_scanNumber : Cond) ∈ Om ∧ (.initialized RX9 : Cond) ∈ Om := ⟨om_587, om_588, om_589, om_531⟩
theorem mv_X9_91 : (.methodLink RX9 91 yX9_isBlank : Cond) ∈ Om ∧ (.static yX9_isBlank : Cond) ∈ Om ∧ (.initialized RX9 : Cond) ∈ Om := ⟨om_591, om_592, om_531⟩
theorem mv_X9_72 : (.methodLink RX9 72 yX9_scanWord : Cond) ∈ Om ∧ (.instanceMethod yX9_scanWord : Cond) ∈ Om ∧ (.selects RX9 yX9_scanWord yX9_scanWord : Cond) ∈ Om ∧ (.initialized RX9 : Cond) ∈ Om := ⟨om_594, om_595, om_596, om_531⟩
theorem mv_X9_88 : (.methodLink RX9 88 yX9_nextWord : Cond) ∈ Om ∧ (.instanceMethod yX9_nextWord : Cond) ∈ Om ∧ (.selects RX9 yX9_nextWord yX9_nextWord : Cond) ∈ Om ∧ (.initialized RX9 : Cond) ∈ Om := ⟨om_598, om_599, om_600, om_531⟩
theorem mv_X6_102 : (.methodLink RX6 102 yX9_startWords : Cond) ∈ Om ∧ (.instanceMethod yX9_startWords : Cond) ∈ Om ∧ (.selects RX9 yX9_startWords yX9_startWords : Cond) ∈ Om ∧ (.initialized RX9 : Cond) ∈ Om := ⟨om_602, om_603, om_604, om_531⟩
theorem mv_X6_38 : (.methodLink RX6 38 yX6_start : Cond) ∈ Om ∧ (.instanceMethod yX6_start : Cond) ∈ Om ∧ (.selects RX6 yX6_start yX6_start : Cond) ∈ Om ∧ (.initialized RX6 : Cond) ∈ Om := ⟨om_606, om_607, om_608, om_609⟩
theorem mv_X6_128 : (.methodLink RX6 128 yX6_readAnds : Cond) ∈ Om ∧ (.instanceMethod yX6_readAnds : Cond) ∈ Om ∧ (.selects RX6 yX6_readAnds yX6_readAnds : Cond) ∈ Om ∧ (.initialized RX6 : Cond) ∈ Om := ⟨om_611, om_612, om_613, om_609⟩
theorem mv_X6_112 : (.methodLink RX6 112 yX6_fail : Cond) ∈ Om ∧ (.instanceMethod yX6_fail : Cond) ∈ Om ∧ (.selects RX6 yX6_fail yX6_fail : Cond) ∈ Om ∧ (.initialized RX6 : Cond) ∈ Om := ⟨om_615, om_616, om_617, om_609⟩
theorem mv_X6_115 : (.methodLink RX6 115 yX6_addNode : Cond) ∈ Om ∧ (.instanceMethod yX6_addNode : Cond) ∈ Om ∧ (.selects RX6 yX6_addNode yX6_addNode : Cond) ∈ Om ∧ (.initialized RX6 : Cond) ∈ Om := ⟨om_619, om_620, om_621, om_609⟩
theorem mv_X6_58 : (.methodLink RX6 58 yX6_emit : Cond) ∈ Om ∧ (.instanceMethod yX6_emit : Cond) ∈ Om ∧ (.selects RX6 yX6_emit yX6_emit : Cond) ∈ Om ∧ (.initialized RX6 : Cond) ∈ Om := ⟨om_624, om_625, om_626, om_609⟩
theorem mv_X6_69 : (.methodLink RX6 69 yX9_nextWord : Cond) ∈ Om ∧ (.instanceMethod yX9_nextWord : Cond) ∈ Om ∧ (.selects RX9 yX9_nextWord yX9_nextWord : Cond) ∈ Om ∧ (.initialized RX9 : Cond) ∈ Om := ⟨om_627, om_599, om_600, om_531⟩
theorem mv_X6_131 : (.methodLink RX6 131 yX6_readNots : Cond) ∈ Om ∧ (.instanceMethod yX6_readNots : Cond) ∈ Om ∧ (.selects RX6 yX6_readNots yX6_readNots : Cond) ∈ Om ∧ (.initialized RX6 : Cond) ∈ Om := ⟨om_629, om_630, om_631, om_609⟩
theorem mv_X6_134 : (.methodLink RX6 134 yX6_readComparison : Cond) ∈ Om ∧ (.instanceMethod yX6_readComparison : Cond) ∈ Om ∧ (.selects RX6 yX6_readComparison yX6_readComparison : Cond) ∈ Om ∧ (.initialized RX6 : Cond) ∈ Om := ⟨om_633, om_634, om_635, om_609⟩
theorem mv_X6_137 : (.methodLink RX6 137 yX6_readSums : Cond) ∈ Om ∧ (.instanceMethod yX6_readSums : Cond) ∈ Om ∧ (.selects RX6 yX6_readSums yX6_readSums : Cond) ∈ Om ∧ (.initialized RX6 : Cond) ∈ Om := ⟨om_637, om_638, om_639, om_609⟩
theorem mv_X6_140 : (.methodLink RX6 140 yX6_comparisonOf : Cond) ∈ Om ∧ (.static yX6_comparisonOf : Cond) ∈ Om ∧ (.initialized RX6 : Cond) ∈ Om := ⟨om_641, om_642, om_609⟩
theorem mv_X6_51 : (.methodLink RX6 51 yX6_refuse : Cond) ∈ Om ∧ (.instanceMethod yX6_refuse : Cond) ∈ Om ∧ (.selects RX6 yX6_refuse yX6_refuse : Cond) ∈ Om ∧ (.initialized RX6 : Cond) ∈ Om := ⟨om_644, om_645, om_646, om_609⟩
theorem mv_X6_122 : (.methodLink RX6 122 yX6_pass : Cond) ∈ Om ∧ (.instanceMethod yX6_pass : Cond) ∈ Om ∧ (.selects RX6 yX6_pass yX6_pass : Cond) ∈ Om ∧ (.initialized RX6 : Cond) ∈ Om := ⟨om_648, om_649, om_650, om_609⟩
theorem mv_X6_144 : (.methodLink RX6 144 yX6_readProducts : Cond) ∈ Om ∧ (.instanceMethod yX6_readProducts : Cond) ∈ Om ∧ (.selects RX6 yX6_readProducts yX6_readProducts : Cond) ∈ Om ∧ (.initialized RX6 : Cond) ∈ Om := ⟨om_652, om_653, om_654, om_609⟩
theorem mv_X6_147 : (.methodLink RX6 147 yX6_readSigned : Cond) ∈ Om ∧ (.instanceMethod yX6_readSigned : Cond) ∈ Om ∧ (.selects RX6 yX6_readSigned yX6_readSigned : Cond) ∈ Om ∧ (.initialized RX6 : Cond) ∈ Om := ⟨om_656, om_657, om_658, om_609⟩
theorem mv_X6_125 : (.methodLink RX6 125 yX6_readP : Cond) ∈ Om ∧ (.instanceMethod yX6_readP : Cond) ∈ Om ∧ (.selects RX6 yX6_readP yX6_readP : Cond) ∈ Om ∧ (.initialized RX6 : Cond) ∈ Om := ⟨om_660, om_661, om_662, om_609⟩
theorem mv_X6_150 : (.methodLink RX6 150 yX6_readAtom : Cond) ∈ Om ∧ (.instanceMethod yX6_readAtom : Cond) ∈ Om ∧ (.selects RX6 yX6_readAtom yX6_readAtom : Cond) ∈ Om ∧ (.initialized RX6 : Cond) ∈ Om := ⟨om_664, om_665, om_666, om_609⟩
theorem mv_X6_153 : (.methodLink RX6 153 yX6_readTail : Cond) ∈ Om ∧ (.instanceMethod yX6_readTail : Cond) ∈ Om ∧ (.selects RX6 yX6_readTail yX6_readTail : Cond) ∈ Om ∧ (.initialized RX6 : Cond) ∈ Om := ⟨om_668, om_669, om_670, om_609⟩
theorem mv_X6_41 : (.methodLink RX6 41 yX6_readE : Cond) ∈ Om ∧ (.instanceMethod yX6_readE : Cond) ∈ Om ∧ (.selects RX6 yX6_readE yX6_readE : Cond) ∈ Om ∧ (.initialized RX6 : Cond) ∈ Om := ⟨om_672, om_673, om_674, om_609⟩
theorem mv_X6_156 : (.methodLink RX6 156 yX6_addNest : Cond) ∈ Om ∧ (.instanceMethod yX6_addNest : Cond) ∈ Om ∧ (.selects RX6 yX6_addNest yX6_addNest : Cond) ∈ Om ∧ (.initialized RX6 : Cond) ∈ Om := ⟨om_676, om_677, om_678, om_609⟩
theorem mv_X6_159 : (.methodLink RX6 159 yX6_readLeaf : Cond) ∈ Om ∧ (.instanceMethod yX6_readLeaf : Cond) ∈ Om ∧ (.selects RX6 yX6_readLeaf yX6_readLeaf : Cond) ∈ Om ∧ (.initialized RX6 : Cond) ∈ Om := ⟨om_680, om_681, om_682, om_609⟩
theorem mv_X6_163 : (.methodLink RX6 163 yX6_readVariable : Cond) ∈ Om ∧ (.instanceMethod yX6_readVariable : Cond) ∈ Om ∧ (.selects RX6 yX6_readVariable yX6_readVariable : Cond) ∈ Om ∧ (.initialized RX6 : Cond) ∈ Om := ⟨om_684, om_685, om_686, om_609⟩
theorem mv_X6_169 : (.methodLink RX6 169 yX6_readInner : Cond) ∈ Om ∧ (.instanceMethod yX6_readInner : Cond) ∈ Om ∧ (.selects RX6 yX6_readInner yX6_readInner : Cond) ∈ Om ∧ (.initialized RX6 : Cond) ∈ Om := ⟨om_688, om_689, om_690, om_609⟩
theorem mv_X6_166 : (.methodLink RX6 166 yX6_readThing : Cond) ∈ Om ∧ (.instanceMethod yX6_readThing : Cond) ∈ Om ∧ (.selects RX6 yX6_readThing yX6_readThing : Cond) ∈ Om ∧ (.initialized RX6 : Cond) ∈ Om := ⟨om_692, om_693, om_694, om_609⟩
theorem mv_X6_172 : (.methodLink RX6 172 yX6_readFold : Cond) ∈ Om ∧ (.instanceMethod yX6_readFold : Cond) ∈ Om ∧ (.selects RX6 yX6_readFold yX6_readFold : Cond) ∈ Om ∧ (.initialized RX6 : Cond) ∈ Om := ⟨om_696, om_697, om_698, om_609⟩
theorem mv_X6_54 : (.methodLink RX6 54 yX6_readSet : Cond) ∈ Om ∧ (.instanceMethod yX6_readSet : Cond) ∈ Om ∧ (.selects RX6 yX6_readSet yX6_readSet : Cond) ∈ Om ∧ (.initialized RX6 : Cond) ∈ Om := ⟨om_700, om_701, om_702, om_609⟩
theorem mv_X6_175 : (.methodLink RX6 175 yX6_readFoldBody : Cond) ∈ Om ∧ (.instanceMethod yX6_readFoldBody : Cond) ∈ Om ∧ (.selects RX6 yX6_readFoldBody yX6_readFoldBody : Cond) ∈ Om ∧ (.initialized RX6 : Cond) ∈ Om := ⟨om_704, om_705, om_706, om_609⟩
theorem mv_X6_66 : (.methodLink RX6 66 yX6_readWhere : Cond) ∈ Om ∧ (.instanceMethod yX6_readWhere : Cond) ∈ Om ∧ (.selects RX6 yX6_readWhere yX6_readWhere : Cond) ∈ Om ∧ (.initialized RX6 : Cond) ∈ Om := ⟨om_708, om_709, om_710, om_609⟩
theorem mv_X7_83 : (.methodLink RX7 83 yX9_startWords : Cond) ∈ Om ∧ (.instanceMethod yX9_startWords : Cond) ∈ Om ∧ (.selects RX9 yX9_startWords yX9_startWords : Cond) ∈ Om ∧ (.initialized RX9 : Cond) ∈ Om := ⟨om_711, om_603, om_604, om_531⟩
theorem mv_X7_103 : (.methodLink RX7 103 yX7_isPlainName : Cond) ∈ Om ∧ (.instanceMethod yX7_isPlainName : Cond) ∈ Om ∧ (.selects RX7 yX7_isPlainName yX7_isPlainName : Cond) ∈ Om ∧ (.initialized RX7 : Cond) ∈ Om := ⟨om_713, om_714, om_715, om_716⟩
theorem mv_X7_116 : (.methodLink RX7 116 yX7_relationOf : Cond) ∈ Om ∧ (.instanceMethod yX7_relationOf : Cond) ∈ Om ∧ (.selects RX7 yX7_relationOf yX7_relationOf : Cond) ∈ Om ∧ (.initialized RX7 : Cond) ∈ Om := ⟨om_718, om_719, om_720, om_716⟩
theorem mv_X7_97 : (.methodLink RX7 97 yX9_nextWord : Cond) ∈ Om ∧ (.instanceMethod yX9_nextWord : Cond) ∈ Om ∧ (.selects RX9 yX9_nextWord yX9_nextWord : Cond) ∈ Om ∧ (.initialized RX9 : Cond) ∈ Om := ⟨om_721, om_599, om_600, om_531⟩
theorem mv_X7_94 : (.methodLink RX7 94 yX7_refuse : Cond) ∈ Om ∧ (.instanceMethod yX7_refuse : Cond) ∈ Om ∧ (.selects RX7 yX7_refuse yX7_refuse : Cond) ∈ Om ∧ (.initialized RX7 : Cond) ∈ Om := ⟨om_723, om_724, om_725, om_716⟩
theorem mv_X7_131 : (.methodLink RX7 131 yX7_pass : Cond) ∈ Om ∧ (.instanceMethod yX7_pass : Cond) ∈ Om ∧ (.selects RX7 yX7_pass yX7_pass : Cond) ∈ Om ∧ (.initialized RX7 : Cond) ∈ Om := ⟨om_727, om_728, om_729, om_716⟩
theorem mv_X7_138 : (.methodLink RX7 138 yX7_variableOf : Cond) ∈ Om ∧ (.instanceMethod yX7_variableOf : Cond) ∈ Om ∧ (.selects RX7 yX7_variableOf yX7_variableOf : Cond) ∈ Om ∧ (.initialized RX7 : Cond) ∈ Om := ⟨om_731, om_732, om_733, om_716⟩
theorem mv_X7_106 : (.methodLink RX7 106 yX7_fail : Cond) ∈ Om ∧ (.instanceMethod yX7_fail : Cond) ∈ Om ∧ (.selects RX7 yX7_fail yX7_fail : Cond) ∈ Om ∧ (.initialized RX7 : Cond) ∈ Om := ⟨om_735, om_736, om_737, om_716⟩
theorem mv_X7_134 : (.methodLink RX7 134 yX7_readVariable : Cond) ∈ Om ∧ (.instanceMethod yX7_readVariable : Cond) ∈ Om ∧ (.selects RX7 yX7_readVariable yX7_readVariable : Cond) ∈ Om ∧ (.initialized RX7 : Cond) ∈ Om := ⟨om_739, om_740, om_741, om_716⟩
theorem mv_X7_120 : (.methodLink RX7 120 yX7_readPair : Cond) ∈ Om ∧ (.instanceMethod yX7_readPair : Cond) ∈ Om ∧ (.selects RX7 yX7_readPair yX7_readPair : Cond) ∈ Om ∧ (.initialized RX7 : Cond) ∈ Om := ⟨om_743, om_744, om_745, om_716⟩
theorem mv_X7_127 : (.methodLink RX7 127 yX7_readPart : Cond) ∈ Om ∧ (.instanceMethod yX7_readPart : Cond) ∈ Om ∧ (.selects RX7 yX7_readPart yX7_readPart : Cond) ∈ Om ∧ (.initialized RX7 : Cond) ∈ Om := ⟨om_747, om_748, om_749, om_716⟩
theorem mv_X7_124 : (.methodLink RX7 124 yX7_readBody : Cond) ∈ Om ∧ (.instanceMethod yX7_readBody : Cond) ∈ Om ∧ (.selects RX7 yX7_readBody yX7_readBody : Cond) ∈ Om ∧ (.initialized RX7 : Cond) ∈ Om := ⟨om_751, om_752, om_753, om_716⟩
theorem mv_X7_89 : (.methodLink RX7 89 yX7_readRule : Cond) ∈ Om ∧ (.instanceMethod yX7_readRule : Cond) ∈ Om ∧ (.selects RX7 yX7_readRule yX7_readRule : Cond) ∈ Om ∧ (.initialized RX7 : Cond) ∈ Om := ⟨om_755, om_756, om_757, om_716⟩
theorem mv_X9_59 : (.methodLink RX9 59 yJ7_fill_53178 : Cond) ∈ Om ∧ (.static yJ7_fill_53178 : Cond) ∈ Om ∧ (.initialized RJ7 : Cond) ∈ Om := ⟨om_759, om_499, om_140⟩
theorem mv_X10_79 : (.methodLink RX10 79 yX10_firstByte : Cond) ∈ Om ∧ (.instanceMethod yX10_firstByte : Cond) ∈ Om ∧ (.selects RX10 yX10_firstByte yX10_firstByte : Cond) ∈ Om ∧ (.initialized RX10 : Cond) ∈ Om := ⟨om_762, om_763, om_764, om_42⟩
theorem mv_X11_102 : (.methodLink RX11 102 yX9_putReady : Cond) ∈ Om ∧ (.instanceMethod yX9_putReady : Cond) ∈ Om ∧ (.selects RX9 yX9_putReady yX9_putReady : Cond) ∈ Om ∧ (.initialized RX9 : Cond) ∈ Om := ⟨om_766, om_767, om_768, om_531⟩
theorem mv_X11_106 : (.methodLink RX11 106 yX9_takeReady : Cond) ∈ Om ∧ (.instanceMethod yX9_takeReady : Cond) ∈ Om ∧ (.selects RX9 yX9_takeReady yX9_takeReady : Cond) ∈ Om ∧ (.initialized RX9 : Cond) ∈ Om := ⟨om_770, om_771, om_772, om_531⟩
theorem mv_X11_123 : (.methodLink RX11 123 yX9_wholeName : Cond) ∈ Om ∧ (.instanceMethod yX9_wholeName : Cond) ∈ Om ∧ (.selects RX9 yX9_wholeName yX9_wholeName : Cond) ∈ Om ∧ (.initialized RX9 : Cond) ∈ Om := ⟨om_776, om_777, om_778, om_531⟩
theorem mv_X11_133 : (.methodLink RX11 133 yX10_hasName : Cond) ∈ Om ∧ (.instanceMethod yX10_hasName : Cond) ∈ Om ∧ (.selects RX10 yX10_hasName yX10_hasName : Cond) ∈ Om ∧ (.initialized RX10 : Cond) ∈ Om := ⟨om_782, om_783, om_784, om_42⟩
theorem mv_X11_140 : (.methodLink RX11 140 yX10_addClass : Cond) ∈ Om ∧ (.instanceMethod yX10_addClass : Cond) ∈ Om ∧ (.selects RX10 yX10_addClass yX10_addClass : Cond) ∈ Om ∧ (.initialized RX10 : Cond) ∈ Om := ⟨om_786, om_787, om_788, om_42⟩
theorem mv_X11_116 : (.methodLink RX11 116 yX10_isClass : Cond) ∈ Om ∧ (.instanceMethod yX10_isClass : Cond) ∈ Om ∧ (.selects RX10 yX10_isClass yX10_isClass : Cond) ∈ Om ∧ (.initialized RX10 : Cond) ∈ Om := ⟨om_791, om_54, om_55, om_42⟩
theorem mv_X11_154 : (.methodLink RX11 154 yX10_hasFieldNamed : Cond) ∈ Om ∧ (.instanceMethod yX10_hasFieldNamed : Cond) ∈ Om ∧ (.selects RX10 yX10_hasFieldNamed yX10_hasFieldNamed : Cond) ∈ Om ∧ (.initialized RX10 : Cond) ∈ Om := ⟨om_793, om_794, om_795, om_42⟩
theorem mv_X11_157 : (.methodLink RX11 157 yX10_addField : Cond) ∈ Om ∧ (.instanceMethod yX10_addField : Cond) ∈ Om ∧ (.selects RX10 yX10_addField yX10_addField : Cond) ∈ Om ∧ (.initialized RX10 : Cond) ∈ Om := ⟨om_797, om_798, om_799, om_42⟩
theorem mv_X11_165 : (.methodLink RX11 165 yX10_firstValue : Cond) ∈ Om ∧ (.static yX10_firstValue : Cond) ∈ Om ∧ (.initialized RX10 : Cond) ∈ Om := ⟨om_800, om_197, om_42⟩
theorem mv_X11_144 : (.methodLink RX11 144 yX10_isType : Cond) ∈ Om ∧ (.instanceMethod yX10_isType : Cond) ∈ Om ∧ (.selects RX10 yX10_isType yX10_isType : Cond) ∈ Om ∧ (.initialized RX10 : Cond) ∈ Om := ⟨om_801, om_58, om_59, om_42⟩
theorem mv_X11_178 : (.methodLink RX11 178 yX10_sizeOf : Cond) ∈ Om ∧ (.instanceMethod yX10_sizeOf : Cond) ∈ Om ∧ (.selects RX10 yX10_sizeOf yX10_sizeOf : Cond) ∈ Om ∧ (.initialized RX10 : Cond) ∈ Om := ⟨om_802, om_389, om_390, om_42⟩
theorem mv_X11_185 : (.methodLink RX11 185 yX2_countOf : Cond) ∈ Om ∧ (.instanceMethod yX2_countOf : Cond) ∈ Om ∧ (.selects RX2 yX2_countOf yX2_countOf : Cond) ∈ Om ∧ (.initialized RX2 : Cond) ∈ Om := ⟨om_804, om_805, om_806, om_181⟩
theorem mv_X11_188 : (.methodLink RX11 188 yX10_hasField : Cond) ∈ Om ∧ (.instanceMethod yX10_hasField : Cond) ∈ Om ∧ (.selects RX10 yX10_hasField yX10_hasField : Cond) ∈ Om ∧ (.initialized RX10 : Cond) ∈ Om := ⟨om_808, om_809, om_810, om_42⟩
theorem mv_X11_204 : (.methodLink RX11 204 yX10_firstByte : Cond) ∈ Om ∧ (.instanceMethod yX10_firstByte : Cond) ∈ Om ∧ (.selects RX10 yX10_firstByte yX10_firstByte : Cond) ∈ Om ∧ (.initialized RX10 : Cond) ∈ Om := ⟨om_811, om_763, om_764, om_42⟩
theorem mv_X11_207 : (.methodLink RX11 207 yX10_isArray : Cond) ∈ Om ∧ (.static yX10_isArray : Cond) ∈ Om ∧ (.initialized RX10 : Cond) ∈ Om := ⟨om_812, om_41, om_42⟩
theorem mv_X11_210 : (.methodLink RX11 210 yX10_slotsOf : Cond) ∈ Om ∧ (.instanceMethod yX10_slotsOf : Cond) ∈ Om ∧ (.selects RX10 yX10_slotsOf yX10_slotsOf : Cond) ∈ Om ∧ (.initialized RX10 : Cond) ∈ Om := ⟨om_813, om_46, om_47, om_42⟩
theorem mv_X11_213 : (.methodLink RX11 213 yX2_hasRoom : Cond) ∈ Om ∧ (.instanceMethod yX2_hasRoom : Cond) ∈ Om ∧ (.selects RX2 yX2_hasRoom yX2_hasRoom : Cond) ∈ Om ∧ (.initialized RX2 : Cond) ∈ Om := ⟨om_814, om_247, om_248, om_181⟩
theorem mv_X11_216 : (.methodLink RX11 216 yX2_create : Cond) ∈ Om ∧ (.instanceMethod yX2_create : Cond) ∈ Om ∧ (.selects RX2 yX2_create yX2_create : Cond) ∈ Om ∧ (.initialized RX2 : Cond) ∈ Om := ⟨om_815, om_255, om_256, om_181⟩
theorem mv_X11_219 : (.methodLink RX11 219 yX2_isThere : Cond) ∈ Om ∧ (.instanceMethod yX2_isThere : Cond) ∈ Om ∧ (.selects RX2 yX2_isThere yX2_isThere : Cond) ∈ Om ∧ (.initialized RX2 : Cond) ∈ Om := ⟨om_816, om_179, om_180, om_181⟩
theorem mv_X11_225 : (.methodLink RX11 225 yX2_rootPlace : Cond) ∈ Om ∧ (.instanceMethod yX2_rootPlace : Cond) ∈ Om ∧ (.selects RX2 yX2_rootPlace yX2_rootPlace : Cond) ∈ Om ∧ (.initialized RX2 : Cond) ∈ Om := ⟨om_818, om_819, om_820, om_181⟩
theorem mv_X11_234 : (.methodLink RX11 234 yX2_dropRoot : Cond) ∈ Om ∧ (.instanceMethod yX2_dropRoot : Cond) ∈ Om ∧ (.selects RX2 yX2_dropRoot yX2_dropRoot : Cond) ∈ Om ∧ (.initialized RX2 : Cond) ∈ Om := ⟨om_822, om_823, om_824, om_181⟩
theorem mv_X11_238 : (.methodLink RX11 238 yX2_hasSlot : Cond) ∈ Om ∧ (.instanceMethod yX2_hasSlot : Cond) ∈ Om ∧ (.selects RX2 yX2_hasSlot yX2_hasSlot : Cond) ∈ Om ∧ (.initialized RX2 : Cond) ∈ Om := ⟨om_828, om_829, om_830, om_181⟩
theorem mv_X11_244 : (.methodLink RX11 244 yX10_kindAt : Cond) ∈ Om ∧ (.instanceMethod yX10_kindAt : Cond) ∈ Om ∧ (.selects RX10 yX10_kindAt yX10_kindAt : Cond) ∈ Om ∧ (.initialized RX10 : Cond) ∈ Om := ⟨om_831, om_66, om_67, om_42⟩
theorem mv_X11_247 : (.methodLink RX11 247 yX10_linkAt : Cond) ∈ Om ∧ (.instanceMethod yX10_linkAt : Cond) ∈ Om ∧ (.selects RX10 yX10_linkAt yX10_linkAt : Cond) ∈ Om ∧ (.initialized RX10 : Cond) ∈ Om := ⟨om_832, om_82, om_83, om_42⟩
theorem mv_X11_250 : (.methodLink RX11 250 yX2_isValue : Cond) ∈ Om ∧ (.instanceMethod yX2_isValue : Cond) ∈ Om ∧ (.selects RX2 yX2_isValue yX2_isValue : Cond) ∈ Om ∧ (.initialized RX2 : Cond) ∈ Om := ⟨om_834, om_835, om_836, om_181⟩
theorem mv_X11_254 : (.methodLink RX11 254 yX3_writeSlot : Cond) ∈ Om ∧ (.instanceMethod yX3_writeSlot : Cond) ∈ Om ∧ (.selects RX3 yX3_writeSlot yX3_writeSlot : Cond) ∈ Om ∧ (.initialized RX3 : Cond) ∈ Om := ⟨om_837, om_277, om_278, om_261⟩
theorem mv_X11_347 : (.methodLink RX11 347 yX4_run : Cond) ∈ Om ∧ (.instanceMethod yX4_run : Cond) ∈ Om ∧ (.selects RX4 yX4_run yX4_run : Cond) ∈ Om ∧ (.initialized RX4 : Cond) ∈ Om := ⟨om_839, om_840, om_841, om_289⟩
theorem mv_X11_351 : (.methodLink RX11 351 yX4_saysTrue : Cond) ∈ Om ∧ (.instanceMethod yX4_saysTrue : Cond) ∈ Om ∧ (.selects RX4 yX4_saysTrue yX4_saysTrue : Cond) ∈ Om ∧ (.initialized RX4 : Cond) ∈ Om := ⟨om_843, om_844, om_845, om_289⟩
theorem mv_X11_343 : (.methodLink RX11 343 yX5_takeFrom : Cond) ∈ Om ∧ (.instanceMethod yX5_takeFrom : Cond) ∈ Om ∧ (.selects RX5 yX5_takeFrom yX5_takeFrom : Cond) ∈ Om ∧ (.initialized RX5 : Cond) ∈ Om := ⟨om_847, om_848, om_849, om_22⟩
theorem mv_X11_258 : (.methodLink RX11 258 yX11_checkPromises : Cond) ∈ Om ∧ (.instanceMethod yX11_checkPromises : Cond) ∈ Om ∧ (.selects RX11 yX11_checkPromises yX11_checkPromises : Cond) ∈ Om ∧ (.initialized RX11 : Cond) ∈ Om := ⟨om_851, om_852, om_853, om_854⟩
theorem mv_X11_261 : (.methodLink RX11 261 yX10_staticField : Cond) ∈ Om ∧ (.instanceMethod yX10_staticField : Cond) ∈ Om ∧ (.selects RX10 yX10_staticField yX10_staticField : Cond) ∈ Om ∧ (.initialized RX10 : Cond) ∈ Om := ⟨om_856, om_857, om_858, om_42⟩
theorem mv_X11_264 : (.methodLink RX11 264 yX3_writeStatic : Cond) ∈ Om ∧ (.instanceMethod yX3_writeStatic : Cond) ∈ Om ∧ (.selects RX3 yX3_writeStatic yX3_writeStatic : Cond) ∈ Om ∧ (.initialized RX3 : Cond) ∈ Om := ⟨om_859, om_283, om_284, om_261⟩
theorem mv_X11_277 : (.methodLink RX11 277 yX3_forgetUndo : Cond) ∈ Om ∧ (.instanceMethod yX3_forgetUndo : Cond) ∈ Om ∧ (.selects RX3 yX3_forgetUndo yX3_forgetUndo : Cond) ∈ Om ∧ (.initialized RX3 : Cond) ∈ Om := ⟨om_861, om_862, om_863, om_261⟩
theorem mv_X11_280 : (.methodLink RX11 280 yX2_dropUnreached : Cond) ∈ Om ∧ (.instanceMethod yX2_dropUnreached : Cond) ∈ Om ∧ (.selects RX2 yX2_dropUnreached yX2_dropUnreached : Cond) ∈ Om ∧ (.initialized RX2 : Cond) ∈ Om := ⟨om_865, om_866, om_867, om_181⟩
theorem mv_X11_284 : (.methodLink RX11 284 yX3_takeBack : Cond) ∈ Om ∧ (.instanceMethod yX3_takeBack : Cond) ∈ Om ∧ (.selects RX3 yX3_takeBack yX3_takeBack : Cond) ∈ Om ∧ (.initialized RX3 : Cond) ∈ Om := ⟨om_869, om_870, om_871, om_261⟩
theorem mv_X11_288 : (.methodLink RX11 288 yX2_canSwap : Cond) ∈ Om ∧ (.instanceMethod yX2_canSwap : Cond) ∈ Om ∧ (.selects RX2 yX2_canSwap yX2_canSwap : Cond) ∈ Om ∧ (.initialized RX2 : Cond) ∈ Om := ⟨om_873, om_874, om_875, om_181⟩
theorem mv_X11_291 : (.methodLink RX11 291 yX3_swapSlots : Cond) ∈ Om ∧ (.instanceMethod yX3_swapSlots : Cond) ∈ Om ∧ (.selects RX3 yX3_swapSlots yX3_swapSlots : Cond) ∈ Om ∧ (.initialized RX3 : Cond) ∈ Om := ⟨om_877, om_878, om_879, om_261⟩
theorem mv_X11_295 : (.methodLink RX11 295 yX3_swapStatics : Cond) ∈ Om ∧ (.instanceMethod yX3_swapStatics : Cond) ∈ Om ∧ (.selects RX3 yX3_swapStatics yX3_swapStatics : Cond) ∈ Om ∧ (.initialized RX3 : Cond) ∈ Om := ⟨om_881, om_882, om_883, om_261⟩
theorem mv_X11_298 : (.methodLink RX11 298 yX2_swapRoots : Cond) ∈ Om ∧ (.instanceMethod yX2_swapRoots : Cond) ∈ Om ∧ (.selects RX2 yX2_swapRoots yX2_swapRoots : Cond) ∈ Om ∧ (.initialized RX2 : Cond) ∈ Om := ⟨om_885, om_886, om_887, om_181⟩
theorem mv_X11_304 : (.methodLink RX11 304 yX2_duplicate : Cond) ∈ Om ∧ (.instanceMethod yX2_duplicate : Cond) ∈ Om ∧ (.selects RX2 yX2_duplicate yX2_duplicate : Cond) ∈ Om ∧ (.initialized RX2 : Cond) ∈ Om := ⟨om_889, om_890, om_891, om_181⟩
theorem mv_X11_313 : (.methodLink RX11 313 yX3_addWatch : Cond) ∈ Om ∧ (.instanceMethod yX3_addWatch : Cond) ∈ Om ∧ (.selects RX3 yX3_addWatch yX3_addWatch : Cond) ∈ Om ∧ (.initialized RX3 : Cond) ∈ Om := ⟨om_893, om_894, om_895, om_261⟩
theorem mv_X11_320 : (.methodLink RX11 320 yX11_rows : Cond) ∈ Om ∧ (.instanceMethod yX11_rows : Cond) ∈ Om ∧ (.selects RX11 yX11_rows yX11_rows : Cond) ∈ Om ∧ (.initialized RX11 : Cond) ∈ Om := ⟨om_897, om_898, om_899, om_854⟩
theorem mv_X11_323 : (.methodLink RX11 323 yX3_rowPart : Cond) ∈ Om ∧ (.instanceMethod yX3_rowPart : Cond) ∈ Om ∧ (.selects RX3 yX3_rowPart yX3_rowPart : Cond) ∈ Om ∧ (.initialized RX3 : Cond) ∈ Om := ⟨om_901, om_902, om_903, om_261⟩
theorem mv_X11_330 : (.methodLink RX11 330 yX6_readPromise : Cond) ∈ Om ∧ (.instanceMethod yX6_readPromise : Cond) ∈ Om ∧ (.selects RX6 yX6_readPromise yX6_readPromise : Cond) ∈ Om ∧ (.initialized RX6 : Cond) ∈ Om := ⟨om_905, om_906, om_907, om_609⟩
theorem mv_X11_340 : (.methodLink RX11 340 yX11_tellFault : Cond) ∈ Om ∧ (.instanceMethod yX11_tellFault : Cond) ∈ Om ∧ (.selects RX11 yX11_tellFault yX11_tellFault : Cond) ∈ Om ∧ (.initialized RX11 : Cond) ∈ Om := ⟨om_909, om_910, om_911, om_854⟩
theorem mv_X11_412 : (.methodLink RX11 412 yX11_isPicture : Cond) ∈ Om ∧ (.static yX11_isPicture : Cond) ∈ Om ∧ (.initialized RX11 : Cond) ∈ Om := ⟨om_913, om_914, om_854⟩
theorem mv_X11_354 : (.methodLink RX11 354 yX11_needPicture : Cond) ∈ Om ∧ (.static yX11_needPicture : Cond) ∈ Om ∧ (.initialized RX11 : Cond) ∈ Om := ⟨om_916, om_917, om_854⟩
theorem mv_X11_360 : (.methodLink RX11 360 yX11_isThing : Cond) ∈ Om ∧ (.instanceMethod yX11_isThing : Cond) ∈ Om ∧ (.selects RX11 yX11_isThing yX11_isThing : Cond) ∈ Om ∧ (.initialized RX11 : Cond) ∈ Om := ⟨om_919, om_920, om_921, om_854⟩
theorem mv_X11_377 : (.methodLink RX11 377 yX5_holdersOf : Cond) ∈ Om ∧ (.instanceMethod yX5_holdersOf : Cond) ∈ Om ∧ (.selects RX5 yX5_holdersOf yX5_holdersOf : Cond) ∈ Om ∧ (.initialized RX5 : Cond) ∈ Om := ⟨om_923, om_924, om_925, om_22⟩
theorem mv_X11_380 : (.methodLink RX11 380 yX5_dominatorOf : Cond) ∈ Om ∧ (.instanceMethod yX5_dominatorOf : Cond) ∈ Om ∧ (.selects RX5 yX5_dominatorOf yX5_dominatorOf : Cond) ∈ Om ∧ (.initialized RX5 : Cond) ∈ Om := ⟨om_927, om_928, om_929, om_22⟩
theorem mv_X11_383 : (.methodLink RX11 383 yX5_keptBy : Cond) ∈ Om ∧ (.instanceMethod yX5_keptBy : Cond) ∈ Om ∧ (.selects RX5 yX5_keptBy yX5_keptBy : Cond) ∈ Om ∧ (.initialized RX5 : Cond) ∈ Om := ⟨om_931, om_932, om_933, om_22⟩
theorem mv_X11_386 : (.methodLink RX11 386 yX5_dominatedBy : Cond) ∈ Om ∧ (.instanceMethod yX5_dominatedBy : Cond) ∈ Om ∧ (.selects RX5 yX5_dominatedBy yX5_dominatedBy : Cond) ∈ Om ∧ (.initialized RX5 : Cond) ∈ Om := ⟨om_935, om_936, om_937, om_22⟩
theorem mv_X11_389 : (.methodLink RX11 389 yX5_ringOf : Cond) ∈ Om ∧ (.instanceMethod yX5_ringOf : Cond) ∈ Om ∧ (.selects RX5 yX5_ringOf yX5_ringOf : Cond) ∈ Om ∧ (.initialized RX5 : Cond) ∈ Om := ⟨om_939, om_940, om_941, om_22⟩
theorem mv_X11_392 : (.methodLink RX11 392 yX5_twinOf : Cond) ∈ Om ∧ (.instanceMethod yX5_twinOf : Cond) ∈ Om ∧ (.selects RX5 yX5_twinOf yX5_twinOf : Cond) ∈ Om ∧ (.initialized RX5 : Cond) ∈ Om := ⟨om_943, om_944, om_945, om_22⟩
theorem mv_X11_415 : (.methodLink RX11 415 yX5_ringCount : Cond) ∈ Om ∧ (.instanceMethod yX5_ringCount : Cond) ∈ Om ∧ (.selects RX5 yX5_ringCount yX5_ringCount : Cond) ∈ Om ∧ (.initialized RX5 : Cond) ∈ Om := ⟨om_947, om_948, om_949, om_22⟩
theorem mv_X11_418 : (.methodLink RX11 418 yX5_twinCount : Cond) ∈ Om ∧ (.instanceMethod yX5_twinCount : Cond) ∈ Om ∧ (.selects RX5 yX5_twinCount yX5_twinCount : Cond) ∈ Om ∧ (.initialized RX5 : Cond) ∈ Om := ⟨om_951, om_952, om_953, om_22⟩
theorem mv_X11_421 : (.methodLink RX11 421 yX5_allSizes : Cond) ∈ Om ∧ (.instanceMethod yX5_allSizes : Cond) ∈ Om ∧ (.selects RX5 yX5_allSizes yX5_allSizes : Cond) ∈ Om ∧ (.initialized RX5 : Cond) ∈ Om := ⟨om_955, om_956, om_957, om_22⟩
theorem mv_X11_425 : (.methodLink RX11 425 yX5_doubledSizes : Cond) ∈ Om ∧ (.instanceMethod yX5_doubledSizes : Cond) ∈ Om ∧ (.selects RX5 yX5_doubledSizes yX5_doubledSizes : Cond) ∈ Om ∧ (.initialized RX5 : Cond) ∈ Om := ⟨om_959, om_960, om_961, om_22⟩
theorem mv_X11_432 : (.methodLink RX11 432 yX5_countOf : Cond) ∈ Om ∧ (.instanceMethod yX5_countOf : Cond) ∈ Om ∧ (.selects RX5 yX5_countOf yX5_countOf : Cond) ∈ Om ∧ (.initialized RX5 : Cond) ∈ Om := ⟨om_963, om_964, om_965, om_22⟩
theorem mv_X11_428 : (.methodLink RX11 428 yX5_countHeirs : Cond) ∈ Om ∧ (.instanceMethod yX5_countHeirs : Cond) ∈ Om ∧ (.selects RX5 yX5_countHeirs yX5_countHeirs : Cond) ∈ Om ∧ (.initialized RX5 : Cond) ∈ Om := ⟨om_967, om_968, om_969, om_22⟩
theorem mv_X11_436 : (.methodLink RX11 436 yX5_twinMember : Cond) ∈ Om ∧ (.instanceMethod yX5_twinMember : Cond) ∈ Om ∧ (.selects RX5 yX5_twinMember yX5_twinMember : Cond) ∈ Om ∧ (.initialized RX5 : Cond) ∈ Om := ⟨om_971, om_972, om_973, om_22⟩
theorem mv_X11_433 : (.methodLink RX11 433 yX5_ringMember : Cond) ∈ Om ∧ (.instanceMethod yX5_ringMember : Cond) ∈ Om ∧ (.selects RX5 yX5_ringMember yX5_ringMember : Cond) ∈ Om ∧ (.initialized RX5 : Cond) ∈ Om := ⟨om_975, om_976, om_977, om_22⟩
theorem mv_X11_442 : (.methodLink RX11 442 yX5_findLost : Cond) ∈ Om ∧ (.instanceMethod yX5_findLost : Cond) ∈ Om ∧ (.selects RX5 yX5_findLost yX5_findLost : Cond) ∈ Om ∧ (.initialized RX5 : Cond) ∈ Om := ⟨om_979, om_980, om_981, om_22⟩
theorem mv_X11_458 : (.methodLink RX11 458 yX5_listChanged : Cond) ∈ Om ∧ (.instanceMethod yX5_listChanged : Cond) ∈ Om ∧ (.selects RX5 yX5_listChanged yX5_listChanged : Cond) ∈ Om ∧ (.initialized RX5 : Cond) ∈ Om := ⟨om_983, om_984, om_985, om_22⟩
theorem mv_X11_451 : (.methodLink RX11 451 yX5_listMissing : Cond) ∈ Om ∧ (.instanceMethod yX5_listMissing : Cond) ∈ Om ∧ (.selects RX5 yX5_listMissing yX5_listMissing : Cond) ∈ Om ∧ (.initialized RX5 : Cond) ∈ Om := ⟨om_987, om_988, om_989, om_22⟩
theorem mv_X11_461 : (.methodLink RX11 461 yX5_isLike : Cond) ∈ Om ∧ (.instanceMethod yX5_isLike : Cond) ∈ Om ∧ (.selects RX5 yX5_isLike yX5_isLike : Cond) ∈ Om ∧ (.initialized RX5 : Cond) ∈ Om := ⟨om_991, om_992, om_993, om_22⟩
theorem mv_X11_467 : (.methodLink RX11 467 yX6_readQuestion : Cond) ∈ Om ∧ (.instanceMethod yX6_readQuestion : Cond) ∈ Om ∧ (.selects RX6 yX6_readQuestion yX6_readQuestion : Cond) ∈ Om ∧ (.initialized RX6 : Cond) ∈ Om := ⟨om_995, om_996, om_997, om_609⟩
theorem mv_X11_482 : (.methodLink RX11 482 yX7_readAll : Cond) ∈ Om ∧ (.instanceMethod yX7_readAll : Cond) ∈ Om ∧ (.selects RX7 yX7_readAll yX7_readAll : Cond) ∈ Om ∧ (.initialized RX7 : Cond) ∈ Om := ⟨om_999, om_1000, om_1001, om_716⟩
theorem mv_X11_487 : (.methodLink RX11 487 yX1_workOut : Cond) ∈ Om ∧ (.instanceMethod yX1_workOut : Cond) ∈ Om ∧ (.selects RX1 yX1_workOut yX1_workOut : Cond) ∈ Om ∧ (.initialized RX1 : Cond) ∈ Om := ⟨om_1003, om_1004, om_1005, om_145⟩
theorem mv_X11_494 : (.methodLink RX11 494 yX1_countOf : Cond) ∈ Om ∧ (.instanceMethod yX1_countOf : Cond) ∈ Om ∧ (.selects RX1 yX1_countOf yX1_countOf : Cond) ∈ Om ∧ (.initialized RX1 : Cond) ∈ Om := ⟨om_1007, om_1008, om_1009, om_145⟩
theorem mv_X11_498 : (.methodLink RX11 498 yX1_has : Cond) ∈ Om ∧ (.instanceMethod yX1_has : Cond) ∈ Om ∧ (.selects RX1 yX1_has yX1_has : Cond) ∈ Om ∧ (.initialized RX1 : Cond) ∈ Om := ⟨om_1011, om_1012, om_1013, om_145⟩
theorem mv_X11_502 : (.methodLink RX11 502 yX0_encode : Cond) ∈ Om ∧ (.instanceMethod yX0_encode : Cond) ∈ Om ∧ (.selects RX0 yX0_encode yX0_encode : Cond) ∈ Om ∧ (.initialized RX0 : Cond) ∈ Om := ⟨om_1015, om_1016, om_1017, om_4⟩
theorem mv_X11_515 : (.methodLink RX11 515 yX0_decode : Cond) ∈ Om ∧ (.instanceMethod yX0_decode : Cond) ∈ Om ∧ (.selects RX0 yX0_decode yX0_decode : Cond) ∈ Om ∧ (.initialized RX0 : Cond) ∈ Om := ⟨om_1019, om_134, om_135, om_4⟩
theorem mv_X11_524 : (.methodLink RX11 524 yX11_exchange : Cond) ∈ Om ∧ (.instanceMethod yX11_exchange : Cond) ∈ Om ∧ (.selects RX11 yX11_exchange yX11_exchange : Cond) ∈ Om ∧ (.initialized RX11 : Cond) ∈ Om := ⟨om_1021, om_1022, om_1023, om_854⟩
theorem mv_X11_521 : (.methodLink RX11 521 yX10_use : Cond) ∈ Om ∧ (.instanceMethod yX10_use : Cond) ∈ Om ∧ (.selects RX10 yX10_use yX10_use : Cond) ∈ Om ∧ (.initialized RX10 : Cond) ∈ Om := ⟨om_1024, om_191, om_192, om_42⟩
theorem mv_X11_527 : (.methodLink RX11 527 yX0_append : Cond) ∈ Om ∧ (.instanceMethod yX0_append : Cond) ∈ Om ∧ (.selects RX0 yX0_append yX0_append : Cond) ∈ Om ∧ (.initialized RX0 : Cond) ∈ Om := ⟨om_1026, om_1027, om_1028, om_4⟩
theorem mv_X11_533 : (.methodLink RX11 533 yX0_reopenAt : Cond) ∈ Om ∧ (.instanceMethod yX0_reopenAt : Cond) ∈ Om ∧ (.selects RX0 yX0_reopenAt yX0_reopenAt : Cond) ∈ Om ∧ (.initialized RX0 : Cond) ∈ Om := ⟨om_1030, om_1031, om_1032, om_4⟩
theorem mv_X11_537 : (.methodLink RX11 537 yX0_readRecord : Cond) ∈ Om ∧ (.instanceMethod yX0_readRecord : Cond) ∈ Om ∧ (.selects RX0 yX0_readRecord yX0_readRecord : Cond) ∈ Om ∧ (.initialized RX0 : Cond) ∈ Om := ⟨om_1034, om_1035, om_1036, om_4⟩
theorem mv_X12_394 : (.methodLink RX12 394 yX12_isDigit : Cond) ∈ Om ∧ (.static yX12_isDigit : Cond) ∈ Om ∧ (.initialized RX12 : Cond) ∈ Om := ⟨om_1038, om_1039, om_1040⟩
theorem mv_X12_402 : (.methodLink RX12 402 yX12_code : Cond) ∈ Om ∧ (.static yX12_code : Cond) ∈ Om ∧ (.initialized RX12 : Cond) ∈ Om := ⟨om_1044, om_1045, om_1040⟩
theorem mv_X12_409 : (.methodLink RX12 409 yX12_keyOf : Cond) ∈ Om ∧ (.instanceMethod yX12_keyOf : Cond) ∈ Om ∧ (.selects RX12 yX12_keyOf yX12_keyOf : Cond) ∈ Om ∧ (.initialized RX12 : Cond) ∈ Om := ⟨om_1047, om_1048, om_1049, om_1040⟩
theorem mv_X12_406 : (.methodLink RX12 406 yX12_isLetter : Cond) ∈ Om ∧ (.static yX12_isLetter : Cond) ∈ Om ∧ (.initialized RX12 : Cond) ∈ Om := ⟨om_1051, om_1052, om_1040⟩
theorem mv_X12_419 : (.methodLink RX12 419 yX12_tapeName : Cond) ∈ Om ∧ (.instanceMethod yX12_tapeName : Cond) ∈ Om ∧ (.selects RX12 yX12_tapeName yX12_tapeName : Cond) ∈ Om ∧ (.initialized RX12 : Cond) ∈ Om := ⟨om_1054, om_1055, om_1056, om_1040⟩
theorem mv_X12_427 : (.methodLink RX12 427 yX12_width : Cond) ∈ Om ∧ (.static yX12_width : Cond) ∈ Om ∧ (.initialized RX12 : Cond) ∈ Om := ⟨om_1058, om_1059, om_1040⟩
theorem mv_X12_423 : (.methodLink RX12 423 yX12_layOut : Cond) ∈ Om ∧ (.instanceMethod yX12_layOut : Cond) ∈ Om ∧ (.selects RX12 yX12_layOut yX12_layOut : Cond) ∈ Om ∧ (.initialized RX12 : Cond) ∈ Om := ⟨om_1061, om_1062, om_1063, om_1040⟩
theorem mv_X12_416 : (.methodLink RX12 416 yX12_isClass : Cond) ∈ Om ∧ (.instanceMethod yX12_isClass : Cond) ∈ Om ∧ (.selects RX12 yX12_isClass yX12_isClass : Cond) ∈ Om ∧ (.initialized RX12 : Cond) ∈ Om := ⟨om_1065, om_1066, om_1067, om_1040⟩
theorem mv_X12_430 : (.methodLink RX12 430 yX12_isLinkType : Cond) ∈ Om ∧ (.instanceMethod yX12_isLinkType : Cond) ∈ Om ∧ (.selects RX12 yX12_isLinkType yX12_isLinkType : Cond) ∈ Om ∧ (.initialized RX12 : Cond) ∈ Om := ⟨om_1070, om_1071, om_1072, om_1040⟩
theorem mv_X12_438 : (.methodLink RX12 438 yX12_sizeOf : Cond) ∈ Om ∧ (.instanceMethod yX12_sizeOf : Cond) ∈ Om ∧ (.selects RX12 yX12_sizeOf yX12_sizeOf : Cond) ∈ Om ∧ (.initialized RX12 : Cond) ∈ Om := ⟨om_1074, om_1075, om_1076, om_1040⟩
theorem mv_X12_441 : (.methodLink RX12 441 yX12_fieldOf : Cond) ∈ Om ∧ (.instanceMethod yX12_fieldOf : Cond) ∈ Om ∧ (.selects RX12 yX12_fieldOf yX12_fieldOf : Cond) ∈ Om ∧ (.initialized RX12 : Cond) ∈ Om := ⟨om_1078, om_1079, om_1080, om_1040⟩
theorem mv_X12_445 : (.methodLink RX12 445 yX12_is : Cond) ∈ Om ∧ (.instanceMethod yX12_is : Cond) ∈ Om ∧ (.selects RX12 yX12_is yX12_is : Cond) ∈ Om ∧ (.initialized RX12 : Cond) ∈ Om := ⟨om_1082, om_1083, om_1084, om_1040⟩
theorem mv_X12_449 : (.methodLink RX12 449 yX12_fits : Cond) ∈ Om ∧ (.instanceMethod yX12_fits : Cond) ∈ Om ∧ (.selects RX12 yX12_fits yX12_fits : Cond) ∈ Om ∧ (.initialized RX12 : Cond) ∈ Om := ⟨om_1086, om_1087, om_1088, om_1040⟩
theorem mv_X12_455 : (.methodLink RX12 455 yX12_slotCount : Cond) ∈ Om ∧ (.instanceMethod yX12_slotCount : Cond) ∈ Om ∧ (.selects RX12 yX12_slotCount yX12_slotCount : Cond) ∈ Om ∧ (.initialized RX12 : Cond) ∈ Om := ⟨om_1090, om_1091, om_1092, om_1040⟩
theorem mv_X12_458 : (.methodLink RX12 458 yX12_kindOf : Cond) ∈ Om ∧ (.instanceMethod yX12_kindOf : Cond) ∈ Om ∧ (.selects RX12 yX12_kindOf yX12_kindOf : Cond) ∈ Om ∧ (.initialized RX12 : Cond) ∈ Om := ⟨om_1094, om_1095, om_1096, om_1040⟩
theorem mv_X12_467 : (.methodLink RX12 467 yX12_add : Cond) ∈ Om ∧ (.instanceMethod yX12_add : Cond) ∈ Om ∧ (.selects RX12 yX12_add yX12_add : Cond) ∈ Om ∧ (.initialized RX12 : Cond) ∈ Om := ⟨om_1098, om_1099, om_1100, om_1040⟩
theorem mv_X12_464 : (.methodLink RX12 464 yX12_isArrayType : Cond) ∈ Om ∧ (.instanceMethod yX12_isArrayType : Cond) ∈ Om ∧ (.selects RX12 yX12_isArrayType yX12_isArrayType : Cond) ∈ Om ∧ (.initialized RX12 : Cond) ∈ Om := ⟨om_1102, om_1103, om_1104, om_1040⟩
theorem mv_X12_473 : (.methodLink RX12 473 yX12_isObject : Cond) ∈ Om ∧ (.instanceMethod yX12_isObject : Cond) ∈ Om ∧ (.selects RX12 yX12_isObject yX12_isObject : Cond) ∈ Om ∧ (.initialized RX12 : Cond) ∈ Om := ⟨om_1106, om_1107, om_1108, om_1040⟩
theorem mv_X12_476 : (.methodLink RX12 476 yX12_rootAt : Cond) ∈ Om ∧ (.instanceMethod yX12_rootAt : Cond) ∈ Om ∧ (.selects RX12 yX12_rootAt yX12_rootAt : Cond) ∈ Om ∧ (.initialized RX12 : Cond) ∈ Om := ⟨om_1110, om_1111, om_1112, om_1040⟩
theorem mv_X12_488 : (.methodLink RX12 488 yX12_look : Cond) ∈ Om ∧ (.instanceMethod yX12_look : Cond) ∈ Om ∧ (.selects RX12 yX12_look yX12_look : Cond) ∈ Om ∧ (.initialized RX12 : Cond) ∈ Om := ⟨om_1114, om_1115, om_1116, om_1040⟩
theorem mv_X12_495 : (.methodLink RX12 495 yX12_isOfKind : Cond) ∈ Om ∧ (.instanceMethod yX12_isOfKind : Cond) ∈ Om ∧ (.selects RX12 yX12_isOfKind yX12_isOfKind : Cond) ∈ Om ∧ (.initialized RX12 : Cond) ∈ Om := ⟨om_1118, om_1119, om_1120, om_1040⟩
theorem mv_X12_499 : (.methodLink RX12 499 yX12_write : Cond) ∈ Om ∧ (.instanceMethod yX12_write : Cond) ∈ Om ∧ (.selects RX12 yX12_write yX12_write : Cond) ∈ Om ∧ (.initialized RX12 : Cond) ∈ Om := ⟨om_1122, om_1123, om_1124, om_1040⟩
theorem mv_X12_532 : (.methodLink RX12 532 yX12_beginWalk : Cond) ∈ Om ∧ (.instanceMethod yX12_beginWalk : Cond) ∈ Om ∧ (.selects RX12 yX12_beginWalk yX12_beginWalk : Cond) ∈ Om ∧ (.initialized RX12 : Cond) ∈ Om := ⟨om_1126, om_1127, om_1128, om_1040⟩
theorem mv_X12_512 : (.methodLink RX12 512 yX12_isLinkSlot : Cond) ∈ Om ∧ (.instanceMethod yX12_isLinkSlot : Cond) ∈ Om ∧ (.selects RX12 yX12_isLinkSlot yX12_isLinkSlot : Cond) ∈ Om ∧ (.initialized RX12 : Cond) ∈ Om := ⟨om_1130, om_1131, om_1132, om_1040⟩
theorem mv_X12_528 : (.methodLink RX12 528 yX12_meet : Cond) ∈ Om ∧ (.instanceMethod yX12_meet : Cond) ∈ Om ∧ (.selects RX12 yX12_meet yX12_meet : Cond) ∈ Om ∧ (.initialized RX12 : Cond) ∈ Om := ⟨om_1134, om_1135, om_1136, om_1040⟩
theorem mv_X12_525 : (.methodLink RX12 525 yX12_isApart : Cond) ∈ Om ∧ (.instanceMethod yX12_isApart : Cond) ∈ Om ∧ (.selects RX12 yX12_isApart yX12_isApart : Cond) ∈ Om ∧ (.initialized RX12 : Cond) ∈ Om := ⟨om_1138, om_1139, om_1140, om_1040⟩
theorem mv_X12_535 : (.methodLink RX12 535 yX12_meetSlots : Cond) ∈ Om ∧ (.instanceMethod yX12_meetSlots : Cond) ∈ Om ∧ (.selects RX12 yX12_meetSlots yX12_meetSlots : Cond) ∈ Om ∧ (.initialized RX12 : Cond) ∈ Om := ⟨om_1142, om_1143, om_1144, om_1040⟩
theorem mv_X12_519 : (.methodLink RX12 519 yX12_isLinkStatic : Cond) ∈ Om ∧ (.instanceMethod yX12_isLinkStatic : Cond) ∈ Om ∧ (.selects RX12 yX12_isLinkStatic yX12_isLinkStatic : Cond) ∈ Om ∧ (.initialized RX12 : Cond) ∈ Om := ⟨om_1146, om_1147, om_1148, om_1040⟩
theorem mv_X12_539 : (.methodLink RX12 539 yX12_walkRoots : Cond) ∈ Om ∧ (.instanceMethod yX12_walkRoots : Cond) ∈ Om ∧ (.selects RX12 yX12_walkRoots yX12_walkRoots : Cond) ∈ Om ∧ (.initialized RX12 : Cond) ∈ Om := ⟨om_1150, om_1151, om_1152, om_1040⟩
theorem mv_X12_545 : (.methodLink RX12 545 yX12_at : Cond) ∈ Om ∧ (.instanceMethod yX12_at : Cond) ∈ Om ∧ (.selects RX12 yX12_at yX12_at : Cond) ∈ Om ∧ (.initialized RX12 : Cond) ∈ Om := ⟨om_1154, om_1155, om_1156, om_1040⟩
theorem mv_X12_548 : (.methodLink RX12 548 yX12_addRoot : Cond) ∈ Om ∧ (.instanceMethod yX12_addRoot : Cond) ∈ Om ∧ (.selects RX12 yX12_addRoot yX12_addRoot : Cond) ∈ Om ∧ (.initialized RX12 : Cond) ∈ Om := ⟨om_1158, om_1159, om_1160, om_1040⟩
theorem mv_X12_552 : (.methodLink RX12 552 yX12_picture0 : Cond) ∈ Om ∧ (.instanceMethod yX12_picture0 : Cond) ∈ Om ∧ (.selects RX12 yX12_picture0 yX12_picture0 : Cond) ∈ Om ∧ (.initialized RX12 : Cond) ∈ Om := ⟨om_1162, om_1163, om_1164, om_1040⟩
theorem mv_X12_570 : (.methodLink RX12 570 yX12_slotsIn : Cond) ∈ Om ∧ (.instanceMethod yX12_slotsIn : Cond) ∈ Om ∧ (.selects RX12 yX12_slotsIn yX12_slotsIn : Cond) ∈ Om ∧ (.initialized RX12 : Cond) ∈ Om := ⟨om_1166, om_1167, om_1168, om_1040⟩
theorem mv_X12_573 : (.methodLink RX12 573 yX12_linksIn : Cond) ∈ Om ∧ (.instanceMethod yX12_linksIn : Cond) ∈ Om ∧ (.selects RX12 yX12_linksIn yX12_linksIn : Cond) ∈ Om ∧ (.initialized RX12 : Cond) ∈ Om := ⟨om_1170, om_1171, om_1172, om_1040⟩
theorem mv_X12_577 : (.methodLink RX12 577 yX12_valueIn : Cond) ∈ Om ∧ (.instanceMethod yX12_valueIn : Cond) ∈ Om ∧ (.selects RX12 yX12_valueIn yX12_valueIn : Cond) ∈ Om ∧ (.initialized RX12 : Cond) ∈ Om := ⟨om_1174, om_1175, om_1176, om_1040⟩
theorem mv_X12_558 : (.methodLink RX12 558 yX12_findWays : Cond) ∈ Om ∧ (.instanceMethod yX12_findWays : Cond) ∈ Om ∧ (.selects RX12 yX12_findWays yX12_findWays : Cond) ∈ Om ∧ (.initialized RX12 : Cond) ∈ Om := ⟨om_1178, om_1179, om_1180, om_1040⟩
theorem mv_X12_584 : (.methodLink RX12 584 yX12_visit : Cond) ∈ Om ∧ (.instanceMethod yX12_visit : Cond) ∈ Om ∧ (.selects RX12 yX12_visit yX12_visit : Cond) ∈ Om ∧ (.initialized RX12 : Cond) ∈ Om := ⟨om_1182, om_1183, om_1184, om_1040⟩
theorem mv_X12_588 : (.methodLink RX12 588 yX12_visitSlots : Cond) ∈ Om ∧ (.instanceMethod yX12_visitSlots : Cond) ∈ Om ∧ (.selects RX12 yX12_visitSlots yX12_visitSlots : Cond) ∈ Om ∧ (.initialized RX12 : Cond) ∈ Om := ⟨om_1186, om_1187, om_1188, om_1040⟩
theorem mv_X12_591 : (.methodLink RX12 591 yX12_reach : Cond) ∈ Om ∧ (.instanceMethod yX12_reach : Cond) ∈ Om ∧ (.selects RX12 yX12_reach yX12_reach : Cond) ∈ Om ∧ (.initialized RX12 : Cond) ∈ Om := ⟨om_1190, om_1191, om_1192, om_1040⟩
theorem mv_X12_509 : (.methodLink RX12 509 yX12_objectSize : Cond) ∈ Om ∧ (.instanceMethod yX12_objectSize : Cond) ∈ Om ∧ (.selects RX12 yX12_objectSize yX12_objectSize : Cond) ∈ Om ∧ (.initialized RX12 : Cond) ∈ Om := ⟨om_1194, om_1195, om_1196, om_1040⟩
theorem mv_X12_594 : (.methodLink RX12 594 yX12_sizeIn : Cond) ∈ Om ∧ (.instanceMethod yX12_sizeIn : Cond) ∈ Om ∧ (.selects RX12 yX12_sizeIn yX12_sizeIn : Cond) ∈ Om ∧ (.initialized RX12 : Cond) ∈ Om := ⟨om_1198, om_1199, om_1200, om_1040⟩
theorem mv_X12_561 : (.methodLink RX12 561 yX12_findDominators : Cond) ∈ Om ∧ (.instanceMethod yX12_findDominators : Cond) ∈ Om ∧ (.selects RX12 yX12_findDominators yX12_findDominators : Cond) ∈ Om ∧ (.initialized RX12 : Cond) ∈ Om := ⟨om_1202, om_1203, om_1204, om_1040⟩
theorem mv_X12_875 : (.methodLink RX12 875 yX12_takeNow : Cond) ∈ Om ∧ (.instanceMethod yX12_takeNow : Cond) ∈ Om ∧ (.selects RX12 yX12_takeNow yX12_takeNow : Cond) ∈ Om ∧ (.initialized RX12 : Cond) ∈ Om := ⟨om_1206, om_1207, om_1208, om_1040⟩
theorem mv_X12_865 : (.methodLink RX12 865 yX12_beginWork : Cond) ∈ Om ∧ (.instanceMethod yX12_beginWork : Cond) ∈ Om ∧ (.selects RX12 yX12_beginWork yX12_beginWork : Cond) ∈ Om ∧ (.initialized RX12 : Cond) ∈ Om := ⟨om_1210, om_1211, om_1212, om_1040⟩
theorem mv_X12_804 : (.methodLink RX12 804 yX12_workBoth : Cond) ∈ Om ∧ (.instanceMethod yX12_workBoth : Cond) ∈ Om ∧ (.selects RX12 yX12_workBoth yX12_workBoth : Cond) ∈ Om ∧ (.initialized RX12 : Cond) ∈ Om := ⟨om_1214, om_1215, om_1216, om_1040⟩
theorem mv_X12_791 : (.methodLink RX12 791 yX12_give : Cond) ∈ Om ∧ (.instanceMethod yX12_give : Cond) ∈ Om ∧ (.selects RX12 yX12_give yX12_give : Cond) ∈ Om ∧ (.initialized RX12 : Cond) ∈ Om := ⟨om_1218, om_1219, om_1220, om_1040⟩
theorem mv_X12_813 : (.methodLink RX12 813 yX12_truth : Cond) ∈ Om ∧ (.instanceMethod yX12_truth : Cond) ∈ Om ∧ (.selects RX12 yX12_truth yX12_truth : Cond) ∈ Om ∧ (.initialized RX12 : Cond) ∈ Om := ⟨om_1222, om_1223, om_1224, om_1040⟩
theorem mv_X12_823 : (.methodLink RX12 823 yX12_workOne : Cond) ∈ Om ∧ (.instanceMethod yX12_workOne : Cond) ∈ Om ∧ (.selects RX12 yX12_workOne yX12_workOne : Cond) ∈ Om ∧ (.initialized RX12 : Cond) ∈ Om := ⟨om_1226, om_1227, om_1228, om_1040⟩
theorem mv_X12_798 : (.methodLink RX12 798 yX12_nothing : Cond) ∈ Om ∧ (.instanceMethod yX12_nothing : Cond) ∈ Om ∧ (.selects RX12 yX12_nothing yX12_nothing : Cond) ∈ Om ∧ (.initialized RX12 : Cond) ∈ Om := ⟨om_1230, om_1231, om_1232, om_1040⟩
theorem mv_X12_820 : (.methodLink RX12 820 yX12_workNumbered : Cond) ∈ Om ∧ (.instanceMethod yX12_workNumbered : Cond) ∈ Om ∧ (.selects RX12 yX12_workNumbered yX12_workNumbered : Cond) ∈ Om ∧ (.initialized RX12 : Cond) ∈ Om := ⟨om_1234, om_1235, om_1236, om_1040⟩
theorem mv_X12_817 : (.methodLink RX12 817 yX12_workPart : Cond) ∈ Om ∧ (.instanceMethod yX12_workPart : Cond) ∈ Om ∧ (.selects RX12 yX12_workPart yX12_workPart : Cond) ∈ Om ∧ (.initialized RX12 : Cond) ∈ Om := ⟨om_1238, om_1239, om_1240, om_1040⟩
theorem mv_X12_807 : (.methodLink RX12 807 yX12_workTwo : Cond) ∈ Om ∧ (.instanceMethod yX12_workTwo : Cond) ∈ Om ∧ (.selects RX12 yX12_workTwo yX12_workTwo : Cond) ∈ Om ∧ (.initialized RX12 : Cond) ∈ Om := ⟨om_1242, om_1243, om_1244, om_1040⟩
theorem mv_X12_801 : (.methodLink RX12 801 yX12_workFold : Cond) ∈ Om ∧ (.instanceMethod yX12_workFold : Cond) ∈ Om ∧ (.selects RX12 yX12_workFold yX12_workFold : Cond) ∈ Om ∧ (.initialized RX12 : Cond) ∈ Om := ⟨om_1246, om_1247, om_1248, om_1040⟩
theorem mv_X12_795 : (.methodLink RX12 795 yX12_step : Cond) ∈ Om ∧ (.instanceMethod yX12_step : Cond) ∈ Om ∧ (.selects RX12 yX12_step yX12_step : Cond) ∈ Om ∧ (.initialized RX12 : Cond) ∈ Om := ⟨om_1250, om_1251, om_1252, om_1040⟩
theorem mv_X12_829 : (.methodLink RX12 829 yX12_work : Cond) ∈ Om ∧ (.instanceMethod yX12_work : Cond) ∈ Om ∧ (.selects RX12 yX12_work yX12_work : Cond) ∈ Om ∧ (.initialized RX12 : Cond) ∈ Om := ⟨om_1254, om_1255, om_1256, om_1040⟩
theorem mv_X12_840 : (.methodLink RX12 840 yX12_link : Cond) ∈ Om ∧ (.instanceMethod yX12_link : Cond) ∈ Om ∧ (.selects RX12 yX12_link yX12_link : Cond) ∈ Om ∧ (.initialized RX12 : Cond) ∈ Om := ⟨om_1258, om_1259, om_1260, om_1040⟩
theorem mv_X12_836 : (.methodLink RX12 836 yX12_workField : Cond) ∈ Om ∧ (.instanceMethod yX12_workField : Cond) ∈ Om ∧ (.selects RX12 yX12_workField yX12_workField : Cond) ∈ Om ∧ (.initialized RX12 : Cond) ∈ Om := ⟨om_1262, om_1263, om_1264, om_1040⟩
theorem mv_X12_832 : (.methodLink RX12 832 yX12_isNamed : Cond) ∈ Om ∧ (.instanceMethod yX12_isNamed : Cond) ∈ Om ∧ (.selects RX12 yX12_isNamed yX12_isNamed : Cond) ∈ Om ∧ (.initialized RX12 : Cond) ∈ Om := ⟨om_1266, om_1267, om_1268, om_1040⟩
theorem mv_X12_843 : (.methodLink RX12 843 yX12_gather : Cond) ∈ Om ∧ (.instanceMethod yX12_gather : Cond) ∈ Om ∧ (.selects RX12 yX12_gather yX12_gather : Cond) ∈ Om ∧ (.initialized RX12 : Cond) ∈ Om := ⟨om_1270, om_1271, om_1272, om_1040⟩
theorem mv_X12_849 : (.methodLink RX12 849 yX12_workSet : Cond) ∈ Om ∧ (.instanceMethod yX12_workSet : Cond) ∈ Om ∧ (.selects RX12 yX12_workSet yX12_workSet : Cond) ∈ Om ∧ (.initialized RX12 : Cond) ∈ Om := ⟨om_1274, om_1275, om_1276, om_1040⟩
theorem mv_X12_878 : (.methodLink RX12 878 yX12_isTrueNow : Cond) ∈ Om ∧ (.instanceMethod yX12_isTrueNow : Cond) ∈ Om ∧ (.selects RX12 yX12_isTrueNow yX12_isTrueNow : Cond) ∈ Om ∧ (.initialized RX12 : Cond) ∈ Om := ⟨om_1278, om_1279, om_1280, om_1040⟩
theorem mv_X12_503 : (.methodLink RX12 503 yX12_lookAtPromises : Cond) ∈ Om ∧ (.instanceMethod yX12_lookAtPromises : Cond) ∈ Om ∧ (.selects RX12 yX12_lookAtPromises yX12_lookAtPromises : Cond) ∈ Om ∧ (.initialized RX12 : Cond) ∈ Om := ⟨om_1282, om_1283, om_1284, om_1040⟩
theorem mv_X12_492 : (.methodLink RX12 492 yX12_linkOf : Cond) ∈ Om ∧ (.instanceMethod yX12_linkOf : Cond) ∈ Om ∧ (.selects RX12 yX12_linkOf yX12_linkOf : Cond) ∈ Om ∧ (.initialized RX12 : Cond) ∈ Om := ⟨om_1286, om_1287, om_1288, om_1040⟩
theorem mv_X12_506 : (.methodLink RX12 506 yX12_staticOf : Cond) ∈ Om ∧ (.instanceMethod yX12_staticOf : Cond) ∈ Om ∧ (.selects RX12 yX12_staticOf yX12_staticOf : Cond) ∈ Om ∧ (.initialized RX12 : Cond) ∈ Om := ⟨om_1290, om_1291, om_1292, om_1040⟩
theorem mv_X12_515 : (.methodLink RX12 515 yX12_turned : Cond) ∈ Om ∧ (.static yX12_turned : Cond) ∈ Om ∧ (.initialized RX12 : Cond) ∈ Om := ⟨om_1294, om_1295, om_1040⟩
theorem mv_X12_542 : (.methodLink RX12 542 yX12_isPicture : Cond) ∈ Om ∧ (.instanceMethod yX12_isPicture : Cond) ∈ Om ∧ (.selects RX12 yX12_isPicture yX12_isPicture : Cond) ∈ Om ∧ (.initialized RX12 : Cond) ∈ Om := ⟨om_1297, om_1298, om_1299, om_1040⟩
theorem mv_X12_564 : (.methodLink RX12 564 yX12_findRings : Cond) ∈ Om ∧ (.instanceMethod yX12_findRings : Cond) ∈ Om ∧ (.selects RX12 yX12_findRings yX12_findRings : Cond) ∈ Om ∧ (.initialized RX12 : Cond) ∈ Om := ⟨om_1301, om_1302, om_1303, om_1040⟩
theorem mv_X12_597 : (.methodLink RX12 597 yX12_areDoubles : Cond) ∈ Om ∧ (.instanceMethod yX12_areDoubles : Cond) ∈ Om ∧ (.selects RX12 yX12_areDoubles yX12_areDoubles : Cond) ∈ Om ∧ (.initialized RX12 : Cond) ∈ Om := ⟨om_1305, om_1306, om_1307, om_1040⟩
theorem mv_X12_567 : (.methodLink RX12 567 yX12_findGroups : Cond) ∈ Om ∧ (.instanceMethod yX12_findGroups : Cond) ∈ Om ∧ (.selects RX12 yX12_findGroups yX12_findGroups : Cond) ∈ Om ∧ (.initialized RX12 : Cond) ∈ Om := ⟨om_1309, om_1310, om_1311, om_1040⟩
theorem mv_X12_555 : (.methodLink RX12 555 yX12_study : Cond) ∈ Om ∧ (.instanceMethod yX12_study : Cond) ∈ Om ∧ (.selects RX12 yX12_study yX12_study : Cond) ∈ Om ∧ (.initialized RX12 : Cond) ∈ Om := ⟨om_1313, om_1314, om_1315, om_1040⟩
theorem mv_X12_600 : (.methodLink RX12 600 yX12_isThing : Cond) ∈ Om ∧ (.instanceMethod yX12_isThing : Cond) ∈ Om ∧ (.selects RX12 yX12_isThing yX12_isThing : Cond) ∈ Om ∧ (.initialized RX12 : Cond) ∈ Om := ⟨om_1317, om_1318, om_1319, om_1040⟩
theorem mv_X12_603 : (.methodLink RX12 603 yX12_holders : Cond) ∈ Om ∧ (.instanceMethod yX12_holders : Cond) ∈ Om ∧ (.selects RX12 yX12_holders yX12_holders : Cond) ∈ Om ∧ (.initialized RX12 : Cond) ∈ Om := ⟨om_1321, om_1322, om_1323, om_1040⟩
theorem mv_X12_606 : (.methodLink RX12 606 yX12_firstOfGroup : Cond) ∈ Om ∧ (.instanceMethod yX12_firstOfGroup : Cond) ∈ Om ∧ (.selects RX12 yX12_firstOfGroup yX12_firstOfGroup : Cond) ∈ Om ∧ (.initialized RX12 : Cond) ∈ Om := ⟨om_1325, om_1326, om_1327, om_1040⟩
theorem mv_X12_609 : (.methodLink RX12 609 yX12_shown : Cond) ∈ Om ∧ (.instanceMethod yX12_shown : Cond) ∈ Om ∧ (.selects RX12 yX12_shown yX12_shown : Cond) ∈ Om ∧ (.initialized RX12 : Cond) ∈ Om := ⟨om_1329, om_1330, om_1331, om_1040⟩
theorem mv_X12_615 : (.methodLink RX12 615 yX12_thingOf : Cond) ∈ Om ∧ (.instanceMethod yX12_thingOf : Cond) ∈ Om ∧ (.selects RX12 yX12_thingOf yX12_thingOf : Cond) ∈ Om ∧ (.initialized RX12 : Cond) ∈ Om := ⟨om_1333, om_1334, om_1335, om_1040⟩
theorem mv_X12_618 : (.methodLink RX12 618 yX12_isChanged : Cond) ∈ Om ∧ (.instanceMethod yX12_isChanged : Cond) ∈ Om ∧ (.selects RX12 yX12_isChanged yX12_isChanged : Cond) ∈ Om ∧ (.initialized RX12 : Cond) ∈ Om := ⟨om_1337, om_1338, om_1339, om_1040⟩
theorem mv_X12_622 : (.methodLink RX12 622 yX12_pair : Cond) ∈ Om ∧ (.instanceMethod yX12_pair : Cond) ∈ Om ∧ (.selects RX12 yX12_pair yX12_pair : Cond) ∈ Om ∧ (.initialized RX12 : Cond) ∈ Om := ⟨om_1341, om_1342, om_1343, om_1040⟩
theorem mv_X12_634 : (.methodLink RX12 634 yX12_byteAt : Cond) ∈ Om ∧ (.instanceMethod yX12_byteAt : Cond) ∈ Om ∧ (.selects RX12 yX12_byteAt yX12_byteAt : Cond) ∈ Om ∧ (.initialized RX12 : Cond) ∈ Om := ⟨om_1345, om_1346, om_1347, om_1040⟩
theorem mv_X12_653 : (.methodLink RX12 653 yX12_fail : Cond) ∈ Om ∧ (.instanceMethod yX12_fail : Cond) ∈ Om ∧ (.selects RX12 yX12_fail yX12_fail : Cond) ∈ Om ∧ (.initialized RX12 : Cond) ∈ Om := ⟨om_1352, om_1353, om_1354, om_1040⟩
theorem mv_X12_661 : (.methodLink RX12 661 yX12_advance : Cond) ∈ Om ∧ (.instanceMethod yX12_advance : Cond) ∈ Om ∧ (.selects RX12 yX12_advance yX12_advance : Cond) ∈ Om ∧ (.initialized RX12 : Cond) ∈ Om := ⟨om_1356, om_1357, om_1358, om_1040⟩
theorem mv_X12_657 : (.methodLink RX12 657 yX12_isSign : Cond) ∈ Om ∧ (.instanceMethod yX12_isSign : Cond) ∈ Om ∧ (.selects RX12 yX12_isSign yX12_isSign : Cond) ∈ Om ∧ (.initialized RX12 : Cond) ∈ Om := ⟨om_1360, om_1361, om_1362, om_1040⟩
theorem mv_X12_664 : (.methodLink RX12 664 yX12_wrong : Cond) ∈ Om ∧ (.instanceMethod yX12_wrong : Cond) ∈ Om ∧ (.selects RX12 yX12_wrong yX12_wrong : Cond) ∈ Om ∧ (.initialized RX12 : Cond) ∈ Om := ⟨om_1364, om_1365, om_1366, om_1040⟩
theorem mv_X12_667 : (.methodLink RX12 667 yX12_isKey : Cond) ∈ Om ∧ (.instanceMethod yX12_isKey : Cond) ∈ Om ∧ (.selects RX12 yX12_isKey yX12_isKey : Cond) ∈ Om ∧ (.initialized RX12 : Cond) ∈ Om := ⟨om_1368, om_1369, om_1370, om_1040⟩
theorem mv_X12_679 : (.methodLink RX12 679 yX12_readAnd : Cond) ∈ Om ∧ (.instanceMethod yX12_readAnd : Cond) ∈ Om ∧ (.selects RX12 yX12_readAnd yX12_readAnd : Cond) ∈ Om ∧ (.initialized RX12 : Cond) ∈ Om := ⟨om_1372, om_1373, om_1374, om_1040⟩
theorem mv_X12_683 : (.methodLink RX12 683 yX12_node : Cond) ∈ Om ∧ (.instanceMethod yX12_node : Cond) ∈ Om ∧ (.selects RX12 yX12_node yX12_node : Cond) ∈ Om ∧ (.initialized RX12 : Cond) ∈ Om := ⟨om_1376, om_1377, om_1378, om_1040⟩
theorem mv_X12_686 : (.methodLink RX12 686 yX12_readNot : Cond) ∈ Om ∧ (.instanceMethod yX12_readNot : Cond) ∈ Om ∧ (.selects RX12 yX12_readNot yX12_readNot : Cond) ∈ Om ∧ (.initialized RX12 : Cond) ∈ Om := ⟨om_1380, om_1381, om_1382, om_1040⟩
theorem mv_X12_689 : (.methodLink RX12 689 yX12_readCompared : Cond) ∈ Om ∧ (.instanceMethod yX12_readCompared : Cond) ∈ Om ∧ (.selects RX12 yX12_readCompared yX12_readCompared : Cond) ∈ Om ∧ (.initialized RX12 : Cond) ∈ Om := ⟨om_1384, om_1385, om_1386, om_1040⟩
theorem mv_X12_704 : (.methodLink RX12 704 yX12_readSum : Cond) ∈ Om ∧ (.instanceMethod yX12_readSum : Cond) ∈ Om ∧ (.selects RX12 yX12_readSum yX12_readSum : Cond) ∈ Om ∧ (.initialized RX12 : Cond) ∈ Om := ⟨om_1388, om_1389, om_1390, om_1040⟩
theorem mv_X12_707 : (.methodLink RX12 707 yX12_compared : Cond) ∈ Om ∧ (.instanceMethod yX12_compared : Cond) ∈ Om ∧ (.selects RX12 yX12_compared yX12_compared : Cond) ∈ Om ∧ (.initialized RX12 : Cond) ∈ Om := ⟨om_1398, om_1399, om_1400, om_1040⟩
theorem mv_X12_710 : (.methodLink RX12 710 yX12_isName : Cond) ∈ Om ∧ (.instanceMethod yX12_isName : Cond) ∈ Om ∧ (.selects RX12 yX12_isName yX12_isName : Cond) ∈ Om ∧ (.initialized RX12 : Cond) ∈ Om := ⟨om_1402, om_1403, om_1404, om_1040⟩
theorem mv_X12_714 : (.methodLink RX12 714 yX12_readProduct : Cond) ∈ Om ∧ (.instanceMethod yX12_readProduct : Cond) ∈ Om ∧ (.selects RX12 yX12_readProduct yX12_readProduct : Cond) ∈ Om ∧ (.initialized RX12 : Cond) ∈ Om := ⟨om_1406, om_1407, om_1408, om_1040⟩
theorem mv_X12_721 : (.methodLink RX12 721 yX12_readTurned : Cond) ∈ Om ∧ (.instanceMethod yX12_readTurned : Cond) ∈ Om ∧ (.selects RX12 yX12_readTurned yX12_readTurned : Cond) ∈ Om ∧ (.initialized RX12 : Cond) ∈ Om := ⟨om_1412, om_1413, om_1414, om_1040⟩
theorem mv_X12_730 : (.methodLink RX12 730 yX12_readP : Cond) ∈ Om ∧ (.instanceMethod yX12_readP : Cond) ∈ Om ∧ (.selects RX12 yX12_readP yX12_readP : Cond) ∈ Om ∧ (.initialized RX12 : Cond) ∈ Om := ⟨om_1419, om_1420, om_1421, om_1040⟩
theorem mv_X12_733 : (.methodLink RX12 733 yX12_readAtom : Cond) ∈ Om ∧ (.instanceMethod yX12_readAtom : Cond) ∈ Om ∧ (.selects RX12 yX12_readAtom yX12_readAtom : Cond) ∈ Om ∧ (.initialized RX12 : Cond) ∈ Om := ⟨om_1423, om_1424, om_1425, om_1040⟩
theorem mv_X12_748 : (.methodLink RX12 748 yX12_needSign : Cond) ∈ Om ∧ (.instanceMethod yX12_needSign : Cond) ∈ Om ∧ (.selects RX12 yX12_needSign yX12_needSign : Cond) ∈ Om ∧ (.initialized RX12 : Cond) ∈ Om := ⟨om_1429, om_1430, om_1431, om_1040⟩
theorem mv_X12_743 : (.methodLink RX12 743 yX12_readE : Cond) ∈ Om ∧ (.instanceMethod yX12_readE : Cond) ∈ Om ∧ (.selects RX12 yX12_readE yX12_readE : Cond) ∈ Om ∧ (.initialized RX12 : Cond) ∈ Om := ⟨om_1433, om_1434, om_1435, om_1040⟩
theorem mv_X12_740 : (.methodLink RX12 740 yX12_nest : Cond) ∈ Om ∧ (.instanceMethod yX12_nest : Cond) ∈ Om ∧ (.selects RX12 yX12_nest yX12_nest : Cond) ∈ Om ∧ (.initialized RX12 : Cond) ∈ Om := ⟨om_1437, om_1438, om_1439, om_1040⟩
theorem mv_X12_751 : (.methodLink RX12 751 yX12_keyAtHand : Cond) ∈ Om ∧ (.instanceMethod yX12_keyAtHand : Cond) ∈ Om ∧ (.selects RX12 yX12_keyAtHand yX12_keyAtHand : Cond) ∈ Om ∧ (.initialized RX12 : Cond) ∈ Om := ⟨om_1442, om_1443, om_1444, om_1040⟩
theorem mv_X12_758 : (.methodLink RX12 758 yX12_readFold : Cond) ∈ Om ∧ (.instanceMethod yX12_readFold : Cond) ∈ Om ∧ (.selects RX12 yX12_readFold yX12_readFold : Cond) ∈ Om ∧ (.initialized RX12 : Cond) ∈ Om := ⟨om_1447, om_1448, om_1449, om_1040⟩
theorem mv_X12_771 : (.methodLink RX12 771 yX12_readSet : Cond) ∈ Om ∧ (.instanceMethod yX12_readSet : Cond) ∈ Om ∧ (.selects RX12 yX12_readSet yX12_readSet : Cond) ∈ Om ∧ (.initialized RX12 : Cond) ∈ Om := ⟨om_1452, om_1453, om_1454, om_1040⟩
theorem mv_X12_768 : (.methodLink RX12 768 yX12_takesKey : Cond) ∈ Om ∧ (.instanceMethod yX12_takesKey : Cond) ∈ Om ∧ (.selects RX12 yX12_takesKey yX12_takesKey : Cond) ∈ Om ∧ (.initialized RX12 : Cond) ∈ Om := ⟨om_1456, om_1457, om_1458, om_1040⟩
theorem mv_X12_855 : (.methodLink RX12 855 yX12_beginText : Cond) ∈ Om ∧ (.instanceMethod yX12_beginText : Cond) ∈ Om ∧ (.selects RX12 yX12_beginText yX12_beginText : Cond) ∈ Om ∧ (.initialized RX12 : Cond) ∈ Om := ⟨om_1461, om_1462, om_1463, om_1040⟩
theorem mv_X12_858 : (.methodLink RX12 858 yX12_endText : Cond) ∈ Om ∧ (.instanceMethod yX12_endText : Cond) ∈ Om ∧ (.selects RX12 yX12_endText yX12_endText : Cond) ∈ Om ∧ (.initialized RX12 : Cond) ∈ Om := ⟨om_1465, om_1466, om_1467, om_1040⟩
theorem mv_X12_861 : (.methodLink RX12 861 yX12_answerAll : Cond) ∈ Om ∧ (.instanceMethod yX12_answerAll : Cond) ∈ Om ∧ (.selects RX12 yX12_answerAll yX12_answerAll : Cond) ∈ Om ∧ (.initialized RX12 : Cond) ∈ Om := ⟨om_1470, om_1471, om_1472, om_1040⟩
theorem mv_X12_384 : (.methodLink RX12 384 yX12_coded : Cond) ∈ Om ∧ (.static yX12_coded : Cond) ∈ Om ∧ (.initialized RX12 : Cond) ∈ Om := ⟨om_1475, om_1476, om_1040⟩
theorem mv_X12_885 : (.methodLink RX12 885 yX12_isRuleName : Cond) ∈ Om ∧ (.instanceMethod yX12_isRuleName : Cond) ∈ Om ∧ (.selects RX12 yX12_isRuleName yX12_isRuleName : Cond) ∈ Om ∧ (.initialized RX12 : Cond) ∈ Om := ⟨om_1479, om_1480, om_1481, om_1040⟩
theorem mv_X12_891 : (.methodLink RX12 891 yX12_readVariable : Cond) ∈ Om ∧ (.instanceMethod yX12_readVariable : Cond) ∈ Om ∧ (.selects RX12 yX12_readVariable yX12_readVariable : Cond) ∈ Om ∧ (.initialized RX12 : Cond) ∈ Om := ⟨om_1483, om_1484, om_1485, om_1040⟩
theorem mv_X12_902 : (.methodLink RX12 902 yX12_takesSign : Cond) ∈ Om ∧ (.instanceMethod yX12_takesSign : Cond) ∈ Om ∧ (.selects RX12 yX12_takesSign yX12_takesSign : Cond) ∈ Om ∧ (.initialized RX12 : Cond) ∈ Om := ⟨om_1488, om_1489, om_1490, om_1040⟩
theorem mv_X12_911 : (.methodLink RX12 911 yX12_relationAtHand : Cond) ∈ Om ∧ (.instanceMethod yX12_relationAtHand : Cond) ∈ Om ∧ (.selects RX12 yX12_relationAtHand yX12_relationAtHand : Cond) ∈ Om ∧ (.initialized RX12 : Cond) ∈ Om := ⟨om_1492, om_1493, om_1494, om_1040⟩
theorem mv_X12_914 : (.methodLink RX12 914 yX12_readPlaces : Cond) ∈ Om ∧ (.instanceMethod yX12_readPlaces : Cond) ∈ Om ∧ (.selects RX12 yX12_readPlaces yX12_readPlaces : Cond) ∈ Om ∧ (.initialized RX12 : Cond) ∈ Om := ⟨om_1496, om_1497, om_1498, om_1040⟩
theorem mv_X12_923 : (.methodLink RX12 923 yX12_isHeld : Cond) ∈ Om ∧ (.instanceMethod yX12_isHeld : Cond) ∈ Om ∧ (.selects RX12 yX12_isHeld yX12_isHeld : Cond) ∈ Om ∧ (.initialized RX12 : Cond) ∈ Om := ⟨om_1501, om_1502, om_1503, om_1040⟩
theorem mv_X12_926 : (.methodLink RX12 926 yX12_readRelation : Cond) ∈ Om ∧ (.instanceMethod yX12_readRelation : Cond) ∈ Om ∧ (.selects RX12 yX12_readRelation yX12_readRelation : Cond) ∈ Om ∧ (.initialized RX12 : Cond) ∈ Om := ⟨om_1505, om_1506, om_1507, om_1040⟩
theorem mv_X12_918 : (.methodLink RX12 918 yX12_readAtomOf : Cond) ∈ Om ∧ (.instanceMethod yX12_readAtomOf : Cond) ∈ Om ∧ (.selects RX12 yX12_readAtomOf yX12_readAtomOf : Cond) ∈ Om ∧ (.initialized RX12 : Cond) ∈ Om := ⟨om_1509, om_1510, om_1511, om_1040⟩
theorem mv_X12_930 : (.methodLink RX12 930 yX12_isFactNow : Cond) ∈ Om ∧ (.instanceMethod yX12_isFactNow : Cond) ∈ Om ∧ (.selects RX12 yX12_isFactNow yX12_isFactNow : Cond) ∈ Om ∧ (.initialized RX12 : Cond) ∈ Om := ⟨om_1513, om_1514, om_1515, om_1040⟩
theorem mv_X12_936 : (.methodLink RX12 936 yX12_holds : Cond) ∈ Om ∧ (.instanceMethod yX12_holds : Cond) ∈ Om ∧ (.selects RX12 yX12_holds yX12_holds : Cond) ∈ Om ∧ (.initialized RX12 : Cond) ∈ Om := ⟨om_1517, om_1518, om_1519, om_1040⟩
theorem mv_X12_939 : (.methodLink RX12 939 yX12_join : Cond) ∈ Om ∧ (.instanceMethod yX12_join : Cond) ∈ Om ∧ (.selects RX12 yX12_join yX12_join : Cond) ∈ Om ∧ (.initialized RX12 : Cond) ∈ Om := ⟨om_1521, om_1522, om_1523, om_1040⟩
theorem mv_X12_945 : (.methodLink RX12 945 yX12_findLinks : Cond) ∈ Om ∧ (.instanceMethod yX12_findLinks : Cond) ∈ Om ∧ (.selects RX12 yX12_findLinks yX12_findLinks : Cond) ∈ Om ∧ (.initialized RX12 : Cond) ∈ Om := ⟨om_1525, om_1526, om_1527, om_1040⟩
theorem mv_X12_948 : (.methodLink RX12 948 yX12_count : Cond) ∈ Om ∧ (.instanceMethod yX12_count : Cond) ∈ Om ∧ (.selects RX12 yX12_count yX12_count : Cond) ∈ Om ∧ (.initialized RX12 : Cond) ∈ Om := ⟨om_1529, om_1530, om_1531, om_1040⟩
theorem mv_X12_942 : (.methodLink RX12 942 yX12_readRule : Cond) ∈ Om ∧ (.instanceMethod yX12_readRule : Cond) ∈ Om ∧ (.selects RX12 yX12_readRule yX12_readRule : Cond) ∈ Om ∧ (.initialized RX12 : Cond) ∈ Om := ⟨om_1533, om_1534, om_1535, om_1040⟩
theorem mv_X12_959 : (.methodLink RX12 959 yX12_putNumber : Cond) ∈ Om ∧ (.instanceMethod yX12_putNumber : Cond) ∈ Om ∧ (.selects RX12 yX12_putNumber yX12_putNumber : Cond) ∈ Om ∧ (.initialized RX12 : Cond) ∈ Om := ⟨om_1540, om_1541, om_1542, om_1040⟩
theorem mv_X12_968 : (.methodLink RX12 968 yX12_check : Cond) ∈ Om ∧ (.static yX12_check : Cond) ∈ Om ∧ (.initialized RX12 : Cond) ∈ Om := ⟨om_1545, om_1546, om_1040⟩
theorem mv_X12_972 : (.methodLink RX12 972 yX12_putPicture : Cond) ∈ Om ∧ (.instanceMethod yX12_putPicture : Cond) ∈ Om ∧ (.selects RX12 yX12_putPicture yX12_putPicture : Cond) ∈ Om ∧ (.initialized RX12 : Cond) ∈ Om := ⟨om_1550, om_1551, om_1552, om_1040⟩
theorem mv_X12_983 : (.methodLink RX12 983 yX12_takeNumber : Cond) ∈ Om ∧ (.instanceMethod yX12_takeNumber : Cond) ∈ Om ∧ (.selects RX12 yX12_takeNumber yX12_takeNumber : Cond) ∈ Om ∧ (.initialized RX12 : Cond) ∈ Om := ⟨om_1555, om_1556, om_1557, om_1040⟩
theorem mv_X12_994 : (.methodLink RX12 994 yX12_takeSlot : Cond) ∈ Om ∧ (.instanceMethod yX12_takeSlot : Cond) ∈ Om ∧ (.selects RX12 yX12_takeSlot yX12_takeSlot : Cond) ∈ Om ∧ (.initialized RX12 : Cond) ∈ Om := ⟨om_1559, om_1560, om_1561, om_1040⟩
theorem mv_X12_988 : (.methodLink RX12 988 yX12_isType : Cond) ∈ Om ∧ (.instanceMethod yX12_isType : Cond) ∈ Om ∧ (.selects RX12 yX12_isType yX12_isType : Cond) ∈ Om ∧ (.initialized RX12 : Cond) ∈ Om := ⟨om_1563, om_1564, om_1565, om_1040⟩
theorem mv_X12_1001 : (.methodLink RX12 1001 yX12_meetNext : Cond) ∈ Om ∧ (.instanceMethod yX12_meetNext : Cond) ∈ Om ∧ (.selects RX12 yX12_meetNext yX12_meetNext : Cond) ∈ Om ∧ (.initialized RX12 : Cond) ∈ Om := ⟨om_1570, om_1571, om_1572, om_1040⟩
theorem mv_X12_1004 : (.methodLink RX12 1004 yX12_takeByte : Cond) ∈ Om ∧ (.instanceMethod yX12_takeByte : Cond) ∈ Om ∧ (.selects RX12 yX12_takeByte yX12_takeByte : Cond) ∈ Om ∧ (.initialized RX12 : Cond) ∈ Om := ⟨om_1574, om_1575, om_1576, om_1040⟩
theorem mv_X12_1018 : (.methodLink RX12 1018 yX12_checkOrder : Cond) ∈ Om ∧ (.instanceMethod yX12_checkOrder : Cond) ∈ Om ∧ (.selects RX12 yX12_checkOrder yX12_checkOrder : Cond) ∈ Om ∧ (.initialized RX12 : Cond) ∈ Om := ⟨om_1578, om_1579, om_1580, om_1040⟩
theorem mv_X12_1015 : (.methodLink RX12 1015 yX12_takeRoots : Cond) ∈ Om ∧ (.instanceMethod yX12_takeRoots : Cond) ∈ Om ∧ (.selects RX12 yX12_takeRoots yX12_takeRoots : Cond) ∈ Om ∧ (.initialized RX12 : Cond) ∈ Om := ⟨om_1582, om_1583, om_1584, om_1040⟩
theorem mv_X12_1012 : (.methodLink RX12 1012 yX12_checkLinks : Cond) ∈ Om ∧ (.instanceMethod yX12_checkLinks : Cond) ∈ Om ∧ (.selects RX12 yX12_checkLinks yX12_checkLinks : Cond) ∈ Om ∧ (.initialized RX12 : Cond) ∈ Om := ⟨om_1586, om_1587, om_1588, om_1040⟩
theorem mv_X12_1009 : (.methodLink RX12 1009 yX12_takeThing : Cond) ∈ Om ∧ (.instanceMethod yX12_takeThing : Cond) ∈ Om ∧ (.selects RX12 yX12_takeThing yX12_takeThing : Cond) ∈ Om ∧ (.initialized RX12 : Cond) ∈ Om := ⟨om_1590, om_1591, om_1592, om_1040⟩
theorem mv_X12_1021 : (.methodLink RX12 1021 yX12_takePicture : Cond) ∈ Om ∧ (.instanceMethod yX12_takePicture : Cond) ∈ Om ∧ (.selects RX12 yX12_takePicture yX12_takePicture : Cond) ∈ Om ∧ (.initialized RX12 : Cond) ∈ Om := ⟨om_1595, om_1596, om_1597, om_1040⟩
theorem mv_X12_1024 : (.methodLink RX12 1024 yX12_copyNow : Cond) ∈ Om ∧ (.instanceMethod yX12_copyNow : Cond) ∈ Om ∧ (.selects RX12 yX12_copyNow yX12_copyNow : Cond) ∈ Om ∧ (.initialized RX12 : Cond) ∈ Om := ⟨om_1599, om_1600, om_1601, om_1040⟩
theorem mv_X12_1033 : (.methodLink RX12 1033 yX12_takeRecord : Cond) ∈ Om ∧ (.instanceMethod yX12_takeRecord : Cond) ∈ Om ∧ (.selects RX12 yX12_takeRecord yX12_takeRecord : Cond) ∈ Om ∧ (.initialized RX12 : Cond) ∈ Om := ⟨om_1603, om_1604, om_1605, om_1040⟩
theorem mv_X9_33 : (.methodLink RX9 33 yJ0_length_8abf5 : Cond) ∈ Om ∧ (.instanceMethod yJ0_length_8abf5 : Cond) ∈ Om ∧ (.selects RJ0 yJ0_length_8abf5 yJ0_length_8abf5 : Cond) ∈ Om ∧ (.initialized RJ0 : Cond) ∈ Om := ⟨om_1625, om_549, om_550, om_541⟩
theorem mv_J1_9 : (.methodLink RJ1 9 yJ0_checkIndex_df160 : Cond) ∈ Om ∧ (.static yJ0_checkIndex_df160 : Cond) ∈ Om ∧ (.initialized RJ0 : Cond) ∈ Om := ⟨om_1627, om_1628, om_541⟩
theorem mv_J0_495 : (.methodLink RJ0 495 yJ1_charAt_3b067 : Cond) ∈ Om ∧ (.static yJ1_charAt_3b067 : Cond) ∈ Om ∧ (.initialized RJ1 : Cond) ∈ Om := ⟨om_1630, om_1631, om_554⟩
theorem mv_X9_39 : (.methodLink RX9 39 yJ0_charAt_5068e : Cond) ∈ Om ∧ (.instanceMethod yJ0_charAt_5068e : Cond) ∈ Om ∧ (.selects RJ0 yJ0_charAt_5068e yJ0_charAt_5068e : Cond) ∈ Om ∧ (.initialized RJ0 : Cond) ∈ Om := ⟨om_1633, om_1634, om_1635, om_541⟩
theorem mv_X5_38 : (.methodLink RX5 38 yJ7_fill_53178 : Cond) ∈ Om ∧ (.static yJ7_fill_53178 : Cond) ∈ Om ∧ (.initialized RJ7 : Cond) ∈ Om := ⟨om_1711, om_499, om_140⟩
theorem mv_X7_17 : (.methodLink RX7 17 yX9_codeOf : Cond) ∈ Om ∧ (.static yX9_codeOf : Cond) ∈ Om ∧ (.initialized RX9 : Cond) ∈ Om := ⟨om_1793, om_1794, om_531⟩
theorem mv_L_120 : (.methodLink RL 120 yX11_feed : Cond) ∈ Om ∧ (.instanceMethod yX11_feed : Cond) ∈ Om ∧ (.selects RX11 yX11_feed yX11_feed : Cond) ∈ Om ∧ (.initialized RX11 : Cond) ∈ Om := ⟨om_2099, om_2100, om_2101, om_854⟩
theorem mv_L_124 : (.methodLink RL 124 yX12_feed : Cond) ∈ Om ∧ (.instanceMethod yX12_feed : Cond) ∈ Om ∧ (.selects RX12 yX12_feed yX12_feed : Cond) ∈ Om ∧ (.initialized RX12 : Cond) ∈ Om := ⟨om_2103, om_2104, om_2105, om_1040⟩
theorem mv_L_125 : (.methodLink RL 125 yX11_end : Cond) ∈ Om ∧ (.instanceMethod yX11_end : Cond) ∈ Om ∧ (.selects RX11 yX11_end yX11_end : Cond) ∈ Om ∧ (.initialized RX11 : Cond) ∈ Om := ⟨om_2107, om_2108, om_2109, om_854⟩
theorem mv_L_128 : (.methodLink RL 128 yX12_end : Cond) ∈ Om ∧ (.instanceMethod yX12_end : Cond) ∈ Om ∧ (.selects RX12 yX12_end yX12_end : Cond) ∈ Om ∧ (.initialized RX12 : Cond) ∈ Om := ⟨om_2111, om_2112, om_2113, om_1040⟩
theorem mv_L_129 : (.methodLink RL 129 yX11_wipe : Cond) ∈ Om ∧ (.instanceMethod yX11_wipe : Cond) ∈ Om ∧ (.selects RX11 yX11_wipe yX11_wipe : Cond) ∈ Om ∧ (.initialized RX11 : Cond) ∈ Om := ⟨om_2115, om_2116, om_2117, om_854⟩
theorem mv_L_132 : (.methodLink RL 132 yX12_wipe : Cond) ∈ Om ∧ (.instanceMethod yX12_wipe : Cond) ∈ Om ∧ (.selects RX12 yX12_wipe yX12_wipe : Cond) ∈ Om ∧ (.initialized RX12 : Cond) ∈ Om := ⟨om_2119, om_2120, om_2121, om_1040⟩
theorem mv_L_133 : (.methodLink RL 133 yX11_flip : Cond) ∈ Om ∧ (.instanceMethod yX11_flip : Cond) ∈ Om ∧ (.selects RX11 yX11_flip yX11_flip : Cond) ∈ Om ∧ (.initialized RX11 : Cond) ∈ Om := ⟨om_2123, om_2124, om_2125, om_854⟩
theorem mv_L_137 : (.methodLink RL 137 yX12_flip : Cond) ∈ Om ∧ (.instanceMethod yX12_flip : Cond) ∈ Om ∧ (.selects RX12 yX12_flip yX12_flip : Cond) ∈ Om ∧ (.initialized RX12 : Cond) ∈ Om := ⟨om_2127, om_2128, om_2129, om_1040⟩
theorem mv_L_138 : (.methodLink RL 138 yX11_cut : Cond) ∈ Om ∧ (.instanceMethod yX11_cut : Cond) ∈ Om ∧ (.selects RX11 yX11_cut yX11_cut : Cond) ∈ Om ∧ (.initialized RX11 : Cond) ∈ Om := ⟨om_2131, om_2132, om_2133, om_854⟩
theorem mv_L_142 : (.methodLink RL 142 yX12_cut : Cond) ∈ Om ∧ (.instanceMethod yX12_cut : Cond) ∈ Om ∧ (.selects RX12 yX12_cut yX12_cut : Cond) ∈ Om ∧ (.initialized RX12 : Cond) ∈ Om := ⟨om_2135, om_2136, om_2137, om_1040⟩
theorem mv_L_143 : (.methodLink RL 143 yL_type : Cond) ∈ Om ∧ (.static yL_type : Cond) ∈ Om ∧ (.initialized RL : Cond) ∈ Om := ⟨om_2139, om_2140, om_2141⟩
theorem mv_L_148 : (.methodLink RL 148 yX12_type : Cond) ∈ Om ∧ (.instanceMethod yX12_type : Cond) ∈ Om ∧ (.selects RX12 yX12_type yX12_type : Cond) ∈ Om ∧ (.initialized RX12 : Cond) ∈ Om := ⟨om_2143, om_2144, om_2145, om_1040⟩
theorem mv_L_149 : (.methodLink RL 149 yX12_thrown : Cond) ∈ Om ∧ (.instanceMethod yX12_thrown : Cond) ∈ Om ∧ (.selects RX12 yX12_thrown yX12_thrown : Cond) ∈ Om ∧ (.initialized RX12 : Cond) ∈ Om := ⟨om_2147, om_2148, om_2149, om_1040⟩
theorem mv_L_152 : (.methodLink RL 152 yL_field : Cond) ∈ Om ∧ (.static yL_field : Cond) ∈ Om ∧ (.initialized RL : Cond) ∈ Om := ⟨om_2151, om_2152, om_2141⟩
theorem mv_L_155 : (.methodLink RL 155 yX12_field : Cond) ∈ Om ∧ (.instanceMethod yX12_field : Cond) ∈ Om ∧ (.selects RX12 yX12_field yX12_field : Cond) ∈ Om ∧ (.initialized RX12 : Cond) ∈ Om := ⟨om_2154, om_2155, om_2156, om_1040⟩
theorem mv_L_156 : (.methodLink RL 156 yX11_typeLook : Cond) ∈ Om ∧ (.instanceMethod yX11_typeLook : Cond) ∈ Om ∧ (.selects RX11 yX11_typeLook yX11_typeLook : Cond) ∈ Om ∧ (.initialized RX11 : Cond) ∈ Om := ⟨om_2158, om_2159, om_2160, om_854⟩
theorem mv_L_159 : (.methodLink RL 159 yX12_typeLook : Cond) ∈ Om ∧ (.instanceMethod yX12_typeLook : Cond) ∈ Om ∧ (.selects RX12 yX12_typeLook yX12_typeLook : Cond) ∈ Om ∧ (.initialized RX12 : Cond) ∈ Om := ⟨om_2162, om_2163, om_2164, om_1040⟩
theorem mv_L_160 : (.methodLink RL 160 yX11_fieldLook : Cond) ∈ Om ∧ (.instanceMethod yX11_fieldLook : Cond) ∈ Om ∧ (.selects RX11 yX11_fieldLook yX11_fieldLook : Cond) ∈ Om ∧ (.initialized RX11 : Cond) ∈ Om := ⟨om_2166, om_2167, om_2168, om_854⟩
theorem mv_L_163 : (.methodLink RL 163 yX12_fieldLook : Cond) ∈ Om ∧ (.instanceMethod yX12_fieldLook : Cond) ∈ Om ∧ (.selects RX12 yX12_fieldLook yX12_fieldLook : Cond) ∈ Om ∧ (.initialized RX12 : Cond) ∈ Om := ⟨om_2170, om_2171, om_2172, om_1040⟩
theorem mv_L_164 : (.methodLink RL 164 yL_make : Cond) ∈ Om ∧ (.static yL_make : Cond) ∈ Om ∧ (.initialized RL : Cond) ∈ Om := ⟨om_2174, om_2175, om_2141⟩
theorem mv_L_166 : (.methodLink RL 166 yX12_make : Cond) ∈ Om ∧ (.instanceMethod yX12_make : Cond) ∈ Om ∧ (.selects RX12 yX12_make yX12_make : Cond) ∈ Om ∧ (.initialized RX12 : Cond) ∈ Om := ⟨om_2177, om_2178, om_2179, om_1040⟩
theorem mv_L_167 : (.methodLink RL 167 yL_root : Cond) ∈ Om ∧ (.static yL_root : Cond) ∈ Om ∧ (.initialized RL : Cond) ∈ Om := ⟨om_2181, om_2182, om_2141⟩
theorem mv_L_170 : (.methodLink RL 170 yX12_root : Cond) ∈ Om ∧ (.instanceMethod yX12_root : Cond) ∈ Om ∧ (.selects RX12 yX12_root yX12_root : Cond) ∈ Om ∧ (.initialized RX12 : Cond) ∈ Om := ⟨om_2184, om_2185, om_2186, om_1040⟩
theorem mv_L_173 : (.methodLink RL 173 yL_set : Cond) ∈ Om ∧ (.static yL_set : Cond) ∈ Om ∧ (.initialized RL : Cond) ∈ Om := ⟨om_2189, om_2190, om_2141⟩
theorem mv_L_176 : (.methodLink RL 176 yX12_set : Cond) ∈ Om ∧ (.instanceMethod yX12_set : Cond) ∈ Om ∧ (.selects RX12 yX12_set yX12_set : Cond) ∈ Om ∧ (.initialized RX12 : Cond) ∈ Om := ⟨om_2192, om_2193, om_2194, om_1040⟩
theorem mv_L_177 : (.methodLink RL 177 yL_setStatic : Cond) ∈ Om ∧ (.static yL_setStatic : Cond) ∈ Om ∧ (.initialized RL : Cond) ∈ Om := ⟨om_2196, om_2197, om_2141⟩
theorem mv_L_179 : (.methodLink RL 179 yX12_setStatic : Cond) ∈ Om ∧ (.instanceMethod yX12_setStatic : Cond) ∈ Om ∧ (.selects RX12 yX12_setStatic yX12_setStatic : Cond) ∈ Om ∧ (.initialized RX12 : Cond) ∈ Om := ⟨om_2199, om_2200, om_2201, om_1040⟩
theorem mv_L_180 : (.methodLink RL 180 yL_get : Cond) ∈ Om ∧ (.static yL_get : Cond) ∈ Om ∧ (.initialized RL : Cond) ∈ Om := ⟨om_2203, om_2204, om_2141⟩
theorem mv_L_182 : (.methodLink RL 182 yX12_get : Cond) ∈ Om ∧ (.instanceMethod yX12_get : Cond) ∈ Om ∧ (.selects RX12 yX12_get yX12_get : Cond) ∈ Om ∧ (.initialized RX12 : Cond) ∈ Om := ⟨om_2206, om_2207, om_2208, om_1040⟩
theorem mv_L_183 : (.methodLink RL 183 yL_getStatic : Cond) ∈ Om ∧ (.static yL_getStatic : Cond) ∈ Om ∧ (.initialized RL : Cond) ∈ Om := ⟨om_2210, om_2211, om_2141⟩
theorem mv_L_185 : (.methodLink RL 185 yX12_getStatic : Cond) ∈ Om ∧ (.instanceMethod yX12_getStatic : Cond) ∈ Om ∧ (.selects RX12 yX12_getStatic yX12_getStatic : Cond) ∈ Om ∧ (.initialized RX12 : Cond) ∈ Om := ⟨om_2213, om_2214, om_2215, om_1040⟩
theorem mv_L_186 : (.methodLink RL 186 yX11_object : Cond) ∈ Om ∧ (.instanceMethod yX11_object : Cond) ∈ Om ∧ (.selects RX11 yX11_object yX11_object : Cond) ∈ Om ∧ (.initialized RX11 : Cond) ∈ Om := ⟨om_2217, om_2218, om_2219, om_854⟩
theorem mv_L_189 : (.methodLink RL 189 yX12_object : Cond) ∈ Om ∧ (.instanceMethod yX12_object : Cond) ∈ Om ∧ (.selects RX12 yX12_object yX12_object : Cond) ∈ Om ∧ (.initialized RX12 : Cond) ∈ Om := ⟨om_2221, om_2222, om_2223, om_1040⟩
theorem mv_L_190 : (.methodLink RL 190 yX11_collect : Cond) ∈ Om ∧ (.instanceMethod yX11_collect : Cond) ∈ Om ∧ (.selects RX11 yX11_collect yX11_collect : Cond) ∈ Om ∧ (.initialized RX11 : Cond) ∈ Om := ⟨om_2225, om_2226, om_2227, om_854⟩
theorem mv_L_193 : (.methodLink RL 193 yX12_collect : Cond) ∈ Om ∧ (.instanceMethod yX12_collect : Cond) ∈ Om ∧ (.selects RX12 yX12_collect yX12_collect : Cond) ∈ Om ∧ (.initialized RX12 : Cond) ∈ Om := ⟨om_2229, om_2230, om_2231, om_1040⟩
theorem mv_L_194 : (.methodLink RL 194 yX11_undo : Cond) ∈ Om ∧ (.instanceMethod yX11_undo : Cond) ∈ Om ∧ (.selects RX11 yX11_undo yX11_undo : Cond) ∈ Om ∧ (.initialized RX11 : Cond) ∈ Om := ⟨om_2233, om_2234, om_2235, om_854⟩
theorem mv_L_197 : (.methodLink RL 197 yX12_undo : Cond) ∈ Om ∧ (.instanceMethod yX12_undo : Cond) ∈ Om ∧ (.selects RX12 yX12_undo yX12_undo : Cond) ∈ Om ∧ (.initialized RX12 : Cond) ∈ Om := ⟨om_2237, om_2238, om_2239, om_1040⟩
theorem mv_L_198 : (.methodLink RL 198 yL_swap : Cond) ∈ Om ∧ (.static yL_swap : Cond) ∈ Om ∧ (.initialized RL : Cond) ∈ Om := ⟨om_2241, om_2242, om_2141⟩
theorem mv_L_200 : (.methodLink RL 200 yX12_swap : Cond) ∈ Om ∧ (.instanceMethod yX12_swap : Cond) ∈ Om ∧ (.selects RX12 yX12_swap yX12_swap : Cond) ∈ Om ∧ (.initialized RX12 : Cond) ∈ Om := ⟨om_2244, om_2245, om_2246, om_1040⟩
theorem mv_L_201 : (.methodLink RL 201 yL_copy : Cond) ∈ Om ∧ (.static yL_copy : Cond) ∈ Om ∧ (.initialized RL : Cond) ∈ Om := ⟨om_2248, om_2249, om_2141⟩
theorem mv_L_203 : (.methodLink RL 203 yX12_copy : Cond) ∈ Om ∧ (.instanceMethod yX12_copy : Cond) ∈ Om ∧ (.selects RX12 yX12_copy yX12_copy : Cond) ∈ Om ∧ (.initialized RX12 : Cond) ∈ Om := ⟨om_2251, om_2252, om_2253, om_1040⟩
theorem mv_L_204 : (.methodLink RL 204 yX11_apart : Cond) ∈ Om ∧ (.instanceMethod yX11_apart : Cond) ∈ Om ∧ (.selects RX11 yX11_apart yX11_apart : Cond) ∈ Om ∧ (.initialized RX11 : Cond) ∈ Om := ⟨om_2255, om_2256, om_2257, om_854⟩
theorem mv_L_208 : (.methodLink RL 208 yX12_apart : Cond) ∈ Om ∧ (.instanceMethod yX12_apart : Cond) ∈ Om ∧ (.selects RX12 yX12_apart yX12_apart : Cond) ∈ Om ∧ (.initialized RX12 : Cond) ∈ Om := ⟨om_2259, om_2260, om_2261, om_1040⟩
theorem mv_L_209 : (.methodLink RL 209 yL_watch : Cond) ∈ Om ∧ (.static yL_watch : Cond) ∈ Om ∧ (.initialized RL : Cond) ∈ Om := ⟨om_2263, om_2264, om_2141⟩
theorem mv_L_212 : (.methodLink RL 212 yX12_watch : Cond) ∈ Om ∧ (.instanceMethod yX12_watch : Cond) ∈ Om ∧ (.selects RX12 yX12_watch yX12_watch : Cond) ∈ Om ∧ (.initialized RX12 : Cond) ∈ Om := ⟨om_2266, om_2267, om_2268, om_1040⟩
theorem mv_L_213 : (.methodLink RL 213 yX11_rows : Cond) ∈ Om ∧ (.instanceMethod yX11_rows : Cond) ∈ Om ∧ (.selects RX11 yX11_rows yX11_rows : Cond) ∈ Om ∧ (.initialized RX11 : Cond) ∈ Om := ⟨om_2269, om_898, om_899, om_854⟩
theorem mv_L_216 : (.methodLink RL 216 yX12_rows : Cond) ∈ Om ∧ (.instanceMethod yX12_rows : Cond) ∈ Om ∧ (.selects RX12 yX12_rows yX12_rows : Cond) ∈ Om ∧ (.initialized RX12 : Cond) ∈ Om := ⟨om_2271, om_2272, om_2273, om_1040⟩
theorem mv_L_217 : (.methodLink RL 217 yL_row : Cond) ∈ Om ∧ (.static yL_row : Cond) ∈ Om ∧ (.initialized RL : Cond) ∈ Om := ⟨om_2275, om_2276, om_2141⟩
theorem mv_L_219 : (.methodLink RL 219 yX12_row : Cond) ∈ Om ∧ (.instanceMethod yX12_row : Cond) ∈ Om ∧ (.selects RX12 yX12_row yX12_row : Cond) ∈ Om ∧ (.initialized RX12 : Cond) ∈ Om := ⟨om_2278, om_2279, om_2280, om_1040⟩
theorem mv_L_220 : (.methodLink RL 220 yL_promise : Cond) ∈ Om ∧ (.static yL_promise : Cond) ∈ Om ∧ (.initialized RL : Cond) ∈ Om := ⟨om_2282, om_2283, om_2141⟩
theorem mv_L_223 : (.methodLink RL 223 yX12_promise : Cond) ∈ Om ∧ (.instanceMethod yX12_promise : Cond) ∈ Om ∧ (.selects RX12 yX12_promise yX12_promise : Cond) ∈ Om ∧ (.initialized RX12 : Cond) ∈ Om := ⟨om_2285, om_2286, om_2287, om_1040⟩
theorem mv_L_224 : (.methodLink RL 224 yL_broken : Cond) ∈ Om ∧ (.static yL_broken : Cond) ∈ Om ∧ (.initialized RL : Cond) ∈ Om := ⟨om_2289, om_2290, om_2141⟩
theorem mv_L_227 : (.methodLink RL 227 yX12_broken : Cond) ∈ Om ∧ (.instanceMethod yX12_broken : Cond) ∈ Om ∧ (.selects RX12 yX12_broken yX12_broken : Cond) ∈ Om ∧ (.initialized RX12 : Cond) ∈ Om := ⟨om_2292, om_2293, om_2294, om_1040⟩
theorem mv_L_228 : (.methodLink RL 228 yL_take : Cond) ∈ Om ∧ (.static yL_take : Cond) ∈ Om ∧ (.initialized RL : Cond) ∈ Om := ⟨om_2296, om_2297, om_2141⟩
theorem mv_L_230 : (.methodLink RL 230 yX12_take : Cond) ∈ Om ∧ (.instanceMethod yX12_take : Cond) ∈ Om ∧ (.selects RX12 yX12_take yX12_take : Cond) ∈ Om ∧ (.initialized RX12 : Cond) ∈ Om := ⟨om_2299, om_2300, om_2301, om_1040⟩
theorem mv_L_231 : (.methodLink RL 231 yX11_thing : Cond) ∈ Om ∧ (.instanceMethod yX11_thing : Cond) ∈ Om ∧ (.selects RX11 yX11_thing yX11_thing : Cond) ∈ Om ∧ (.initialized RX11 : Cond) ∈ Om := ⟨om_2303, om_2304, om_2305, om_854⟩
theorem mv_L_234 : (.methodLink RL 234 yX12_thing : Cond) ∈ Om ∧ (.instanceMethod yX12_thing : Cond) ∈ Om ∧ (.selects RX12 yX12_thing yX12_thing : Cond) ∈ Om ∧ (.initialized RX12 : Cond) ∈ Om := ⟨om_2307, om_2308, om_2309, om_1040⟩
theorem mv_L_235 : (.methodLink RL 235 yL_slot : Cond) ∈ Om ∧ (.static yL_slot : Cond) ∈ Om ∧ (.initialized RL : Cond) ∈ Om := ⟨om_2311, om_2312, om_2141⟩
theorem mv_L_237 : (.methodLink RL 237 yX12_slot : Cond) ∈ Om ∧ (.instanceMethod yX12_slot : Cond) ∈ Om ∧ (.selects RX12 yX12_slot yX12_slot : Cond) ∈ Om ∧ (.initialized RX12 : Cond) ∈ Om := ⟨om_2314, om_2315, om_2316, om_1040⟩
theorem mv_L_238 : (.methodLink RL 238 yL_holder : Cond) ∈ Om ∧ (.static yL_holder : Cond) ∈ Om ∧ (.initialized RL : Cond) ∈ Om := ⟨om_2318, om_2319, om_2141⟩
theorem mv_L_241 : (.methodLink RL 241 yX12_holder : Cond) ∈ Om ∧ (.instanceMethod yX12_holder : Cond) ∈ Om ∧ (.selects RX12 yX12_holder yX12_holder : Cond) ∈ Om ∧ (.initialized RX12 : Cond) ∈ Om := ⟨om_2321, om_2322, om_2323, om_1040⟩
theorem mv_L_242 : (.methodLink RL 242 yX11_picture : Cond) ∈ Om ∧ (.instanceMethod yX11_picture : Cond) ∈ Om ∧ (.selects RX11 yX11_picture yX11_picture : Cond) ∈ Om ∧ (.initialized RX11 : Cond) ∈ Om := ⟨om_2325, om_2326, om_2327, om_854⟩
theorem mv_L_245 : (.methodLink RL 245 yX12_picture : Cond) ∈ Om ∧ (.instanceMethod yX12_picture : Cond) ∈ Om ∧ (.selects RX12 yX12_picture yX12_picture : Cond) ∈ Om ∧ (.initialized RX12 : Cond) ∈ Om := ⟨om_2329, om_2330, om_2331, om_1040⟩
theorem mv_L_246 : (.methodLink RL 246 yL_member : Cond) ∈ Om ∧ (.static yL_member : Cond) ∈ Om ∧ (.initialized RL : Cond) ∈ Om := ⟨om_2333, om_2334, om_2141⟩
theorem mv_L_248 : (.methodLink RL 248 yX12_member : Cond) ∈ Om ∧ (.instanceMethod yX12_member : Cond) ∈ Om ∧ (.selects RX12 yX12_member yX12_member : Cond) ∈ Om ∧ (.initialized RX12 : Cond) ∈ Om := ⟨om_2336, om_2337, om_2338, om_1040⟩
theorem mv_L_249 : (.methodLink RL 249 yX11_choose : Cond) ∈ Om ∧ (.instanceMethod yX11_choose : Cond) ∈ Om ∧ (.selects RX11 yX11_choose yX11_choose : Cond) ∈ Om ∧ (.initialized RX11 : Cond) ∈ Om := ⟨om_2340, om_2341, om_2342, om_854⟩
theorem mv_L_253 : (.methodLink RL 253 yX12_choose : Cond) ∈ Om ∧ (.instanceMethod yX12_choose : Cond) ∈ Om ∧ (.selects RX12 yX12_choose yX12_choose : Cond) ∈ Om ∧ (.initialized RX12 : Cond) ∈ Om := ⟨om_2344, om_2345, om_2346, om_1040⟩
theorem mv_L_254 : (.methodLink RL 254 yL_lost : Cond) ∈ Om ∧ (.static yL_lost : Cond) ∈ Om ∧ (.initialized RL : Cond) ∈ Om := ⟨om_2348, om_2349, om_2141⟩
theorem mv_L_256 : (.methodLink RL 256 yX12_lost : Cond) ∈ Om ∧ (.instanceMethod yX12_lost : Cond) ∈ Om ∧ (.selects RX12 yX12_lost yX12_lost : Cond) ∈ Om ∧ (.initialized RX12 : Cond) ∈ Om := ⟨om_2351, om_2352, om_2353, om_1040⟩
theorem mv_L_257 : (.methodLink RL 257 yX11_lostThing : Cond) ∈ Om ∧ (.instanceMethod yX11_lostThing : Cond) ∈ Om ∧ (.selects RX11 yX11_lostThing yX11_lostThing : Cond) ∈ Om ∧ (.initialized RX11 : Cond) ∈ Om := ⟨om_2355, om_2356, om_2357, om_854⟩
theorem mv_L_260 : (.methodLink RL 260 yX12_lostThing : Cond) ∈ Om ∧ (.instanceMethod yX12_lostThing : Cond) ∈ Om ∧ (.selects RX12 yX12_lostThing yX12_lostThing : Cond) ∈ Om ∧ (.initialized RX12 : Cond) ∈ Om := ⟨om_2359, om_2360, om_2361, om_1040⟩
theorem mv_L_261 : (.methodLink RL 261 yL_growth : Cond) ∈ Om ∧ (.static yL_growth : Cond) ∈ Om ∧ (.initialized RL : Cond) ∈ Om := ⟨om_2363, om_2364, om_2141⟩
theorem mv_L_263 : (.methodLink RL 263 yX12_growth : Cond) ∈ Om ∧ (.instanceMethod yX12_growth : Cond) ∈ Om ∧ (.selects RX12 yX12_growth yX12_growth : Cond) ∈ Om ∧ (.initialized RX12 : Cond) ∈ Om := ⟨om_2366, om_2367, om_2368, om_1040⟩
theorem mv_L_264 : (.methodLink RL 264 yX11_grown : Cond) ∈ Om ∧ (.instanceMethod yX11_grown : Cond) ∈ Om ∧ (.selects RX11 yX11_grown yX11_grown : Cond) ∈ Om ∧ (.initialized RX11 : Cond) ∈ Om := ⟨om_2370, om_2371, om_2372, om_854⟩
theorem mv_L_267 : (.methodLink RL 267 yX12_grown : Cond) ∈ Om ∧ (.instanceMethod yX12_grown : Cond) ∈ Om ∧ (.selects RX12 yX12_grown yX12_grown : Cond) ∈ Om ∧ (.initialized RX12 : Cond) ∈ Om := ⟨om_2374, om_2375, om_2376, om_1040⟩
theorem mv_L_268 : (.methodLink RL 268 yL_like : Cond) ∈ Om ∧ (.static yL_like : Cond) ∈ Om ∧ (.initialized RL : Cond) ∈ Om := ⟨om_2378, om_2379, om_2141⟩
theorem mv_L_270 : (.methodLink RL 270 yX12_like : Cond) ∈ Om ∧ (.instanceMethod yX12_like : Cond) ∈ Om ∧ (.selects RX12 yX12_like yX12_like : Cond) ∈ Om ∧ (.initialized RX12 : Cond) ∈ Om := ⟨om_2381, om_2382, om_2383, om_1040⟩
theorem mv_L_271 : (.methodLink RL 271 yL_ask : Cond) ∈ Om ∧ (.static yL_ask : Cond) ∈ Om ∧ (.initialized RL : Cond) ∈ Om := ⟨om_2385, om_2386, om_2141⟩
theorem mv_L_273 : (.methodLink RL 273 yX12_ask : Cond) ∈ Om ∧ (.instanceMethod yX12_ask : Cond) ∈ Om ∧ (.selects RX12 yX12_ask yX12_ask : Cond) ∈ Om ∧ (.initialized RX12 : Cond) ∈ Om := ⟨om_2388, om_2389, om_2390, om_1040⟩
theorem mv_L_274 : (.methodLink RL 274 yL_answer : Cond) ∈ Om ∧ (.static yL_answer : Cond) ∈ Om ∧ (.initialized RL : Cond) ∈ Om := ⟨om_2392, om_2393, om_2141⟩
theorem mv_L_276 : (.methodLink RL 276 yX12_answer : Cond) ∈ Om ∧ (.instanceMethod yX12_answer : Cond) ∈ Om ∧ (.selects RX12 yX12_answer yX12_answer : Cond) ∈ Om ∧ (.initialized RX12 : Cond) ∈ Om := ⟨om_2395, om_2396, om_2397, om_1040⟩
theorem mv_L_277 : (.methodLink RL 277 yL_rules : Cond) ∈ Om ∧ (.static yL_rules : Cond) ∈ Om ∧ (.initialized RL : Cond) ∈ Om := ⟨om_2399, om_2400, om_2141⟩
theorem mv_L_279 : (.methodLink RL 279 yX12_rules : Cond) ∈ Om ∧ (.instanceMethod yX12_rules : Cond) ∈ Om ∧ (.selects RX12 yX12_rules yX12_rules : Cond) ∈ Om ∧ (.initialized RX12 : Cond) ∈ Om := ⟨om_2402, om_2403, om_2404, om_1040⟩
theorem mv_L_280 : (.methodLink RL 280 yX11_facts : Cond) ∈ Om ∧ (.instanceMethod yX11_facts : Cond) ∈ Om ∧ (.selects RX11 yX11_facts yX11_facts : Cond) ∈ Om ∧ (.initialized RX11 : Cond) ∈ Om := ⟨om_2406, om_2407, om_2408, om_854⟩
theorem mv_L_283 : (.methodLink RL 283 yX12_facts : Cond) ∈ Om ∧ (.instanceMethod yX12_facts : Cond) ∈ Om ∧ (.selects RX12 yX12_facts yX12_facts : Cond) ∈ Om ∧ (.initialized RX12 : Cond) ∈ Om := ⟨om_2410, om_2411, om_2412, om_1040⟩
theorem mv_L_284 : (.methodLink RL 284 yL_isFact : Cond) ∈ Om ∧ (.static yL_isFact : Cond) ∈ Om ∧ (.initialized RL : Cond) ∈ Om := ⟨om_2414, om_2415, om_2141⟩
theorem mv_L_286 : (.methodLink RL 286 yX12_isFact : Cond) ∈ Om ∧ (.instanceMethod yX12_isFact : Cond) ∈ Om ∧ (.selects RX12 yX12_isFact yX12_isFact : Cond) ∈ Om ∧ (.initialized RX12 : Cond) ∈ Om := ⟨om_2417, om_2418, om_2419, om_1040⟩
theorem mv_L_287 : (.methodLink RL 287 yX11_fault : Cond) ∈ Om ∧ (.instanceMethod yX11_fault : Cond) ∈ Om ∧ (.selects RX11 yX11_fault yX11_fault : Cond) ∈ Om ∧ (.initialized RX11 : Cond) ∈ Om := ⟨om_2421, om_2422, om_2423, om_854⟩
theorem mv_L_290 : (.methodLink RL 290 yX12_fault : Cond) ∈ Om ∧ (.instanceMethod yX12_fault : Cond) ∈ Om ∧ (.selects RX12 yX12_fault yX12_fault : Cond) ∈ Om ∧ (.initialized RX12 : Cond) ∈ Om := ⟨om_2425, om_2426, om_2427, om_1040⟩
theorem mv_L_291 : (.methodLink RL 291 yL_bytes : Cond) ∈ Om ∧ (.static yL_bytes : Cond) ∈ Om ∧ (.initialized RL : Cond) ∈ Om := ⟨om_2429, om_2430, om_2141⟩
theorem mv_L_293 : (.methodLink RL 293 yX12_bytes : Cond) ∈ Om ∧ (.instanceMethod yX12_bytes : Cond) ∈ Om ∧ (.selects RX12 yX12_bytes yX12_bytes : Cond) ∈ Om ∧ (.initialized RX12 : Cond) ∈ Om := ⟨om_2432, om_2433, om_2434, om_1040⟩
theorem mv_L_294 : (.methodLink RL 294 yX11_letter : Cond) ∈ Om ∧ (.instanceMethod yX11_letter : Cond) ∈ Om ∧ (.selects RX11 yX11_letter yX11_letter : Cond) ∈ Om ∧ (.initialized RX11 : Cond) ∈ Om := ⟨om_2436, om_2437, om_2438, om_854⟩
theorem mv_L_297 : (.methodLink RL 297 yX12_letter : Cond) ∈ Om ∧ (.instanceMethod yX12_letter : Cond) ∈ Om ∧ (.selects RX12 yX12_letter yX12_letter : Cond) ∈ Om ∧ (.initialized RX12 : Cond) ∈ Om := ⟨om_2440, om_2441, om_2442, om_1040⟩
theorem mv_L_298 : (.methodLink RL 298 yL_load : Cond) ∈ Om ∧ (.static yL_load : Cond) ∈ Om ∧ (.initialized RL : Cond) ∈ Om := ⟨om_2444, om_2445, om_2141⟩
theorem mv_L_300 : (.methodLink RL 300 yX12_load : Cond) ∈ Om ∧ (.instanceMethod yX12_load : Cond) ∈ Om ∧ (.selects RX12 yX12_load yX12_load : Cond) ∈ Om ∧ (.initialized RX12 : Cond) ∈ Om := ⟨om_2447, om_2448, om_2449, om_1040⟩
theorem mv_L_301 : (.methodLink RL 301 yL_keep : Cond) ∈ Om ∧ (.static yL_keep : Cond) ∈ Om ∧ (.initialized RL : Cond) ∈ Om := ⟨om_2451, om_2452, om_2141⟩
theorem mv_L_303 : (.methodLink RL 303 yX12_keep : Cond) ∈ Om ∧ (.instanceMethod yX12_keep : Cond) ∈ Om ∧ (.selects RX12 yX12_keep yX12_keep : Cond) ∈ Om ∧ (.initialized RX12 : Cond) ∈ Om := ⟨om_2454, om_2455, om_2456, om_1040⟩
theorem mv_L_304 : (.methodLink RL 304 yX11_reopen : Cond) ∈ Om ∧ (.instanceMethod yX11_reopen : Cond) ∈ Om ∧ (.selects RX11 yX11_reopen yX11_reopen : Cond) ∈ Om ∧ (.initialized RX11 : Cond) ∈ Om := ⟨om_2458, om_2459, om_2460, om_854⟩
theorem mv_L_307 : (.methodLink RL 307 yX12_reopen : Cond) ∈ Om ∧ (.instanceMethod yX12_reopen : Cond) ∈ Om ∧ (.selects RX12 yX12_reopen yX12_reopen : Cond) ∈ Om ∧ (.initialized RX12 : Cond) ∈ Om := ⟨om_2462, om_2463, om_2464, om_1040⟩
theorem mv_L_308 : (.methodLink RL 308 yL_recall : Cond) ∈ Om ∧ (.static yL_recall : Cond) ∈ Om ∧ (.initialized RL : Cond) ∈ Om := ⟨om_2466, om_2467, om_2141⟩
theorem mv_L_310 : (.methodLink RL 310 yX12_recall : Cond) ∈ Om ∧ (.instanceMethod yX12_recall : Cond) ∈ Om ∧ (.selects RX12 yX12_recall yX12_recall : Cond) ∈ Om ∧ (.initialized RX12 : Cond) ∈ Om := ⟨om_2469, om_2470, om_2471, om_1040⟩
theorem mv_L_311 : (.methodLink RL 311 yX11_about : Cond) ∈ Om ∧ (.instanceMethod yX11_about : Cond) ∈ Om ∧ (.selects RX11 yX11_about yX11_about : Cond) ∈ Om ∧ (.initialized RX11 : Cond) ∈ Om := ⟨om_2473, om_2474, om_2475, om_854⟩
theorem mv_L_314 : (.methodLink RL 314 yX12_about : Cond) ∈ Om ∧ (.instanceMethod yX12_about : Cond) ∈ Om ∧ (.selects RX12 yX12_about yX12_about : Cond) ∈ Om ∧ (.initialized RX12 : Cond) ∈ Om := ⟨om_2477, om_2478, om_2479, om_1040⟩
theorem hd_X0_putv : yX0_put.cls = RX0 ∧ yX0_put.cls ≠ "java/lang/invoke/MethodHandle" ∧ yX0_put.cls ≠ "java/lang/invoke/VarHandle" ∧ (parseMethodDescriptor yX0_put.desc).map (fun d => d.parameters.length) = some 1 := by decide +kernel
theorem hd_X0_putNumberv : yX0_putNumber.cls = RX0 ∧ yX0_putNumber.cls ≠ "java/lang/invoke/MethodHandle" ∧ yX0_putNumber.cls ≠ "java/lang/invoke/VarHandle" ∧ (parseMethodDescriptor yX0_putNumber.desc).map (fun d => d.parameters.length) = some 1 := by decide +kernel
theorem hd_X0_checkOf : yX0_checkOf.cls ≠ "java/lang/invoke/MethodHandle" ∧ yX0_checkOf.cls ≠ "java/lang/invoke/VarHandle" ∧ (parseMethodDescriptor yX0_checkOf.desc).map (fun d => d.parameters.length) = some 3 := by decide +kernel
theorem hd_X5_forgetv : yX5_forget.cls = RX5 ∧ yX5_forget.cls ≠ "java/lang/invoke/MethodHandle" ∧ yX5_forget.cls ≠ "java/lang/invoke/VarHandle" ∧ (parseMethodDescriptor yX5_forget.desc).map (fun d => d.parameters.length) = some 0 := by decide +kernel
theorem hd_X0_failv : yX0_fail.cls = RX0 ∧ yX0_fail.cls ≠ "java/lang/invoke/MethodHandle" ∧ yX0_fail.cls ≠ "java/lang/invoke/VarHandle" ∧ (parseMethodDescriptor yX0_fail.desc).map (fun d => d.parameters.length) = some 2 := by decide +kernel
theorem hd_X0_readMarksv : yX0_readMarks.cls = RX0 ∧ yX0_readMarks.cls ≠ "java/lang/invoke/MethodHandle" ∧ yX0_readMarks.cls ≠ "java/lang/invoke/VarHandle" ∧ (parseMethodDescriptor yX0_readMarks.desc).map (fun d => d.parameters.length) = some 0 := by decide +kernel
theorem hd_X0_readNumberv : yX0_readNumber.cls = RX0 ∧ yX0_readNumber.cls ≠ "java/lang/invoke/MethodHandle" ∧ yX0_readNumber.cls ≠ "java/lang/invoke/VarHandle" ∧ (parseMethodDescriptor yX0_readNumber.desc).map (fun d => d.parameters.length) = some 0 := by decide +kernel
theorem hd_X0_readUpTov : yX0_readUpTo.cls = RX0 ∧ yX0_readUpTo.cls ≠ "java/lang/invoke/MethodHandle" ∧ yX0_readUpTo.cls ≠ "java/lang/invoke/VarHandle" ∧ (parseMethodDescriptor yX0_readUpTo.desc).map (fun d => d.parameters.length) = some 1 := by decide +kernel
theorem hd_X10_isArray : yX10_isArray.cls ≠ "java/lang/invoke/MethodHandle" ∧ yX10_isArray.cls ≠ "java/lang/invoke/VarHandle" ∧ (parseMethodDescriptor yX10_isArray.desc).map (fun d => d.parameters.length) = some 1 := by decide +kernel
theorem hd_X10_slotsOfv : yX10_slotsOf.cls = RX10 ∧ yX10_slotsOf.cls ≠ "java/lang/invoke/MethodHandle" ∧ yX10_slotsOf.cls ≠ "java/lang/invoke/VarHandle" ∧ (parseMethodDescriptor yX10_slotsOf.desc).map (fun d => d.parameters.length) = some 2 := by decide +kernel
theorem hd_X5_addThingv : yX5_addThing.cls = RX5 ∧ yX5_addThing.cls ≠ "java/lang/invoke/MethodHandle" ∧ yX5_addThing.cls ≠ "java/lang/invoke/VarHandle" ∧ (parseMethodDescriptor yX5_addThing.desc).map (fun d => d.parameters.length) = some 4 := by decide +kernel
theorem hd_X10_isClassv : yX10_isClass.cls = RX10 ∧ yX10_isClass.cls ≠ "java/lang/invoke/MethodHandle" ∧ yX10_isClass.cls ≠ "java/lang/invoke/VarHandle" ∧ (parseMethodDescriptor yX10_isClass.desc).map (fun d => d.parameters.length) = some 1 := by decide +kernel
theorem hd_X10_isTypev : yX10_isType.cls = RX10 ∧ yX10_isType.cls ≠ "java/lang/invoke/MethodHandle" ∧ yX10_isType.cls ≠ "java/lang/invoke/VarHandle" ∧ (parseMethodDescriptor yX10_isType.desc).map (fun d => d.parameters.length) = some 1 := by decide +kernel
theorem hd_X0_readThingv : yX0_readThing.cls = RX0 ∧ yX0_readThing.cls ≠ "java/lang/invoke/MethodHandle" ∧ yX0_readThing.cls ≠ "java/lang/invoke/VarHandle" ∧ (parseMethodDescriptor yX0_readThing.desc).map (fun d => d.parameters.length) = some 2 := by decide +kernel
theorem hd_X10_kindAtv : yX10_kindAt.cls = RX10 ∧ yX10_kindAt.cls ≠ "java/lang/invoke/MethodHandle" ∧ yX10_kindAt.cls ≠ "java/lang/invoke/VarHandle" ∧ (parseMethodDescriptor yX10_kindAt.desc).map (fun d => d.parameters.length) = some 2 := by decide +kernel
theorem hd_X10_isNumber : yX10_isNumber.cls ≠ "java/lang/invoke/MethodHandle" ∧ yX10_isNumber.cls ≠ "java/lang/invoke/VarHandle" ∧ (parseMethodDescriptor yX10_isNumber.desc).map (fun d => d.parameters.length) = some 2 := by decide +kernel
theorem hd_X0_readSlotsv : yX0_readSlots.cls = RX0 ∧ yX0_readSlots.cls ≠ "java/lang/invoke/MethodHandle" ∧ yX0_readSlots.cls ≠ "java/lang/invoke/VarHandle" ∧ (parseMethodDescriptor yX0_readSlots.desc).map (fun d => d.parameters.length) = some 3 := by decide +kernel
theorem hd_X0_readThingsv : yX0_readThings.cls = RX0 ∧ yX0_readThings.cls ≠ "java/lang/invoke/MethodHandle" ∧ yX0_readThings.cls ≠ "java/lang/invoke/VarHandle" ∧ (parseMethodDescriptor yX0_readThings.desc).map (fun d => d.parameters.length) = some 1 := by decide +kernel
theorem hd_X10_linkAtv : yX10_linkAt.cls = RX10 ∧ yX10_linkAt.cls ≠ "java/lang/invoke/MethodHandle" ∧ yX10_linkAt.cls ≠ "java/lang/invoke/VarHandle" ∧ (parseMethodDescriptor yX10_linkAt.desc).map (fun d => d.parameters.length) = some 2 := by decide +kernel
theorem hd_X10_isHeirv : yX10_isHeir.cls = RX10 ∧ yX10_isHeir.cls ≠ "java/lang/invoke/MethodHandle" ∧ yX10_isHeir.cls ≠ "java/lang/invoke/VarHandle" ∧ (parseMethodDescriptor yX10_isHeir.desc).map (fun d => d.parameters.length) = some 2 := by decide +kernel
theorem hd_X10_fitsv : yX10_fits.cls = RX10 ∧ yX10_fits.cls ≠ "java/lang/invoke/MethodHandle" ∧ yX10_fits.cls ≠ "java/lang/invoke/VarHandle" ∧ (parseMethodDescriptor yX10_fits.desc).map (fun d => d.parameters.length) = some 2 := by decide +kernel
theorem hd_X0_checkLinksv : yX0_checkLinks.cls = RX0 ∧ yX0_checkLinks.cls ≠ "java/lang/invoke/MethodHandle" ∧ yX0_checkLinks.cls ≠ "java/lang/invoke/VarHandle" ∧ (parseMethodDescriptor yX0_checkLinks.desc).map (fun d => d.parameters.length) = some 1 := by decide +kernel
theorem hd_X5_addRootv : yX5_addRoot.cls = RX5 ∧ yX5_addRoot.cls ≠ "java/lang/invoke/MethodHandle" ∧ yX5_addRoot.cls ≠ "java/lang/invoke/VarHandle" ∧ (parseMethodDescriptor yX5_addRoot.desc).map (fun d => d.parameters.length) = some 2 := by decide +kernel
theorem hd_X0_readRootsv : yX0_readRoots.cls = RX0 ∧ yX0_readRoots.cls ≠ "java/lang/invoke/MethodHandle" ∧ yX0_readRoots.cls ≠ "java/lang/invoke/VarHandle" ∧ (parseMethodDescriptor yX0_readRoots.desc).map (fun d => d.parameters.length) = some 1 := by decide +kernel
theorem hd_X0_readCheckv : yX0_readCheck.cls = RX0 ∧ yX0_readCheck.cls ≠ "java/lang/invoke/MethodHandle" ∧ yX0_readCheck.cls ≠ "java/lang/invoke/VarHandle" ∧ (parseMethodDescriptor yX0_readCheck.desc).map (fun d => d.parameters.length) = some 0 := by decide +kernel
theorem hd_X5_setWayv : yX5_setWay.cls = RX5 ∧ yX5_setWay.cls ≠ "java/lang/invoke/MethodHandle" ∧ yX5_setWay.cls ≠ "java/lang/invoke/VarHandle" ∧ (parseMethodDescriptor yX5_setWay.desc).map (fun d => d.parameters.length) = some 3 := by decide +kernel
theorem hd_X5_findWaysv : yX5_findWays.cls = RX5 ∧ yX5_findWays.cls ≠ "java/lang/invoke/MethodHandle" ∧ yX5_findWays.cls ≠ "java/lang/invoke/VarHandle" ∧ (parseMethodDescriptor yX5_findWays.desc).map (fun d => d.parameters.length) = some 0 := by decide +kernel
theorem hd_X0_checkWalkv : yX0_checkWalk.cls = RX0 ∧ yX0_checkWalk.cls ≠ "java/lang/invoke/MethodHandle" ∧ yX0_checkWalk.cls ≠ "java/lang/invoke/VarHandle" ∧ (parseMethodDescriptor yX0_checkWalk.desc).map (fun d => d.parameters.length) = some 1 := by decide +kernel
theorem hd_X0_recordEndv : yX0_recordEnd.cls = RX0 ∧ yX0_recordEnd.cls ≠ "java/lang/invoke/MethodHandle" ∧ yX0_recordEnd.cls ≠ "java/lang/invoke/VarHandle" ∧ (parseMethodDescriptor yX0_recordEnd.desc).map (fun d => d.parameters.length) = some 1 := by decide +kernel
theorem hd_X0_decodev : yX0_decode.cls = RX0 ∧ yX0_decode.cls ≠ "java/lang/invoke/MethodHandle" ∧ yX0_decode.cls ≠ "java/lang/invoke/VarHandle" ∧ (parseMethodDescriptor yX0_decode.desc).map (fun d => d.parameters.length) = some 4 := by decide +kernel
theorem hd_J7_fill_d0a16 : yJ7_fill_d0a16.cls ≠ "java/lang/invoke/MethodHandle" ∧ yJ7_fill_d0a16.cls ≠ "java/lang/invoke/VarHandle" ∧ (parseMethodDescriptor yJ7_fill_d0a16.desc).map (fun d => d.parameters.length) = some 2 := by decide +kernel
theorem hd_X1_addFactv : yX1_addFact.cls = RX1 ∧ yX1_addFact.cls ≠ "java/lang/invoke/MethodHandle" ∧ yX1_addFact.cls ≠ "java/lang/invoke/VarHandle" ∧ (parseMethodDescriptor yX1_addFact.desc).map (fun d => d.parameters.length) = some 3 := by decide +kernel
theorem hd_X1_addGivenv : yX1_addGiven.cls = RX1 ∧ yX1_addGiven.cls ≠ "java/lang/invoke/MethodHandle" ∧ yX1_addGiven.cls ≠ "java/lang/invoke/VarHandle" ∧ (parseMethodDescriptor yX1_addGiven.desc).map (fun d => d.parameters.length) = some 1 := by decide +kernel
theorem hd_X10_isNamedv : yX10_isNamed.cls = RX10 ∧ yX10_isNamed.cls ≠ "java/lang/invoke/MethodHandle" ∧ yX10_isNamed.cls ≠ "java/lang/invoke/VarHandle" ∧ (parseMethodDescriptor yX10_isNamed.desc).map (fun d => d.parameters.length) = some 2 := by decide +kernel
theorem hd_X1_findClassesv : yX1_findClasses.cls = RX1 ∧ yX1_findClasses.cls ≠ "java/lang/invoke/MethodHandle" ∧ yX1_findClasses.cls ≠ "java/lang/invoke/VarHandle" ∧ (parseMethodDescriptor yX1_findClasses.desc).map (fun d => d.parameters.length) = some 1 := by decide +kernel
theorem hd_X1_candidatesv : yX1_candidates.cls = RX1 ∧ yX1_candidates.cls ≠ "java/lang/invoke/MethodHandle" ∧ yX1_candidates.cls ≠ "java/lang/invoke/VarHandle" ∧ (parseMethodDescriptor yX1_candidates.desc).map (fun d => d.parameters.length) = some 2 := by decide +kernel
theorem hd_X1_tryThingsv : yX1_tryThings.cls = RX1 ∧ yX1_tryThings.cls ≠ "java/lang/invoke/MethodHandle" ∧ yX1_tryThings.cls ≠ "java/lang/invoke/VarHandle" ∧ (parseMethodDescriptor yX1_tryThings.desc).map (fun d => d.parameters.length) = some 2 := by decide +kernel
theorem hd_J13_bitCount_95d88 : yJ13_bitCount_95d88.cls ≠ "java/lang/invoke/MethodHandle" ∧ yJ13_bitCount_95d88.cls ≠ "java/lang/invoke/VarHandle" ∧ (parseMethodDescriptor yJ13_bitCount_95d88.desc).map (fun d => d.parameters.length) = some 1 := by decide +kernel
theorem hd_X2_isTherev : yX2_isThere.cls = RX2 ∧ yX2_isThere.cls ≠ "java/lang/invoke/MethodHandle" ∧ yX2_isThere.cls ≠ "java/lang/invoke/VarHandle" ∧ (parseMethodDescriptor yX2_isThere.desc).map (fun d => d.parameters.length) = some 1 := by decide +kernel
theorem hd_X2_slotsOfv : yX2_slotsOf.cls = RX2 ∧ yX2_slotsOf.cls ≠ "java/lang/invoke/MethodHandle" ∧ yX2_slotsOf.cls ≠ "java/lang/invoke/VarHandle" ∧ (parseMethodDescriptor yX2_slotsOf.desc).map (fun d => d.parameters.length) = some 1 := by decide +kernel
theorem hd_X10_usev : yX10_use.cls = RX10 ∧ yX10_use.cls ≠ "java/lang/invoke/MethodHandle" ∧ yX10_use.cls ≠ "java/lang/invoke/VarHandle" ∧ (parseMethodDescriptor yX10_use.desc).map (fun d => d.parameters.length) = some 1 := by decide +kernel
theorem hd_X10_firstValue : yX10_firstValue.cls ≠ "java/lang/invoke/MethodHandle" ∧ yX10_firstValue.cls ≠ "java/lang/invoke/VarHandle" ∧ (parseMethodDescriptor yX10_firstValue.desc).map (fun d => d.parameters.length) = some 1 := by decide +kernel
theorem hd_X10_ownFieldsv : yX10_ownFields.cls = RX10 ∧ yX10_ownFields.cls ≠ "java/lang/invoke/MethodHandle" ∧ yX10_ownFields.cls ≠ "java/lang/invoke/VarHandle" ∧ (parseMethodDescriptor yX10_ownFields.desc).map (fun d => d.parameters.length) = some 0 := by decide +kernel
theorem hd_X10_isLinkStaticv : yX10_isLinkStatic.cls = RX10 ∧ yX10_isLinkStatic.cls ≠ "java/lang/invoke/MethodHandle" ∧ yX10_isLinkStatic.cls ≠ "java/lang/invoke/VarHandle" ∧ (parseMethodDescriptor yX10_isLinkStatic.desc).map (fun d => d.parameters.length) = some 1 := by decide +kernel
theorem hd_X2_fitsSwappedv : yX2_fitsSwapped.cls = RX2 ∧ yX2_fitsSwapped.cls ≠ "java/lang/invoke/MethodHandle" ∧ yX2_fitsSwapped.cls ≠ "java/lang/invoke/VarHandle" ∧ (parseMethodDescriptor yX2_fitsSwapped.desc).map (fun d => d.parameters.length) = some 4 := by decide +kernel
theorem hd_J7_rangeCheck_23922 : yJ7_rangeCheck_23922.cls ≠ "java/lang/invoke/MethodHandle" ∧ yJ7_rangeCheck_23922.cls ≠ "java/lang/invoke/VarHandle" ∧ (parseMethodDescriptor yJ7_rangeCheck_23922.desc).map (fun d => d.parameters.length) = some 3 := by decide +kernel
theorem hd_J7_fill_fda19 : yJ7_fill_fda19.cls ≠ "java/lang/invoke/MethodHandle" ∧ yJ7_fill_fda19.cls ≠ "java/lang/invoke/VarHandle" ∧ (parseMethodDescriptor yJ7_fill_fda19.desc).map (fun d => d.parameters.length) = some 4 := by decide +kernel
theorem hd_X2_meetv : yX2_meet.cls = RX2 ∧ yX2_meet.cls ≠ "java/lang/invoke/MethodHandle" ∧ yX2_meet.cls ≠ "java/lang/invoke/VarHandle" ∧ (parseMethodDescriptor yX2_meet.desc).map (fun d => d.parameters.length) = some 2 := by decide +kernel
theorem hd_X2_clearMarksv : yX2_clearMarks.cls = RX2 ∧ yX2_clearMarks.cls ≠ "java/lang/invoke/MethodHandle" ∧ yX2_clearMarks.cls ≠ "java/lang/invoke/VarHandle" ∧ (parseMethodDescriptor yX2_clearMarks.desc).map (fun d => d.parameters.length) = some 0 := by decide +kernel
theorem hd_X2_meetRootsv : yX2_meetRoots.cls = RX2 ∧ yX2_meetRoots.cls ≠ "java/lang/invoke/MethodHandle" ∧ yX2_meetRoots.cls ≠ "java/lang/invoke/VarHandle" ∧ (parseMethodDescriptor yX2_meetRoots.desc).map (fun d => d.parameters.length) = some 0 := by decide +kernel
theorem hd_X2_moveSlotsv : yX2_moveSlots.cls = RX2 ∧ yX2_moveSlots.cls ≠ "java/lang/invoke/MethodHandle" ∧ yX2_moveSlots.cls ≠ "java/lang/invoke/VarHandle" ∧ (parseMethodDescriptor yX2_moveSlots.desc).map (fun d => d.parameters.length) = some 3 := by decide +kernel
theorem hd_X2_meetLinksv : yX2_meetLinks.cls = RX2 ∧ yX2_meetLinks.cls ≠ "java/lang/invoke/MethodHandle" ∧ yX2_meetLinks.cls ≠ "java/lang/invoke/VarHandle" ∧ (parseMethodDescriptor yX2_meetLinks.desc).map (fun d => d.parameters.length) = some 2 := by decide +kernel
theorem hd_X10_isApartv : yX10_isApart.cls = RX10 ∧ yX10_isApart.cls ≠ "java/lang/invoke/MethodHandle" ∧ yX10_isApart.cls ≠ "java/lang/invoke/VarHandle" ∧ (parseMethodDescriptor yX10_isApart.desc).map (fun d => d.parameters.length) = some 1 := by decide +kernel
theorem hd_X2_walkToCopyv : yX2_walkToCopy.cls = RX2 ∧ yX2_walkToCopy.cls ≠ "java/lang/invoke/MethodHandle" ∧ yX2_walkToCopy.cls ≠ "java/lang/invoke/VarHandle" ∧ (parseMethodDescriptor yX2_walkToCopy.desc).map (fun d => d.parameters.length) = some 2 := by decide +kernel
theorem hd_X2_hasRoomv : yX2_hasRoom.cls = RX2 ∧ yX2_hasRoom.cls ≠ "java/lang/invoke/MethodHandle" ∧ yX2_hasRoom.cls ≠ "java/lang/invoke/VarHandle" ∧ (parseMethodDescriptor yX2_hasRoom.desc).map (fun d => d.parameters.length) = some 2 := by decide +kernel
theorem hd_X2_copySlotsv : yX2_copySlots.cls = RX2 ∧ yX2_copySlots.cls ≠ "java/lang/invoke/MethodHandle" ∧ yX2_copySlots.cls ≠ "java/lang/invoke/VarHandle" ∧ (parseMethodDescriptor yX2_copySlots.desc).map (fun d => d.parameters.length) = some 3 := by decide +kernel
theorem hd_X2_createv : yX2_create.cls = RX2 ∧ yX2_create.cls ≠ "java/lang/invoke/MethodHandle" ∧ yX2_create.cls ≠ "java/lang/invoke/VarHandle" ∧ (parseMethodDescriptor yX2_create.desc).map (fun d => d.parameters.length) = some 2 := by decide +kernel
theorem hd_X3_rememberv : yX3_remember.cls = RX3 ∧ yX3_remember.cls ≠ "java/lang/invoke/MethodHandle" ∧ yX3_remember.cls ≠ "java/lang/invoke/VarHandle" ∧ (parseMethodDescriptor yX3_remember.desc).map (fun d => d.parameters.length) = some 2 := by decide +kernel
theorem hd_X3_isCasev : yX3_isCase.cls = RX3 ∧ yX3_isCase.cls ≠ "java/lang/invoke/MethodHandle" ∧ yX3_isCase.cls ≠ "java/lang/invoke/VarHandle" ∧ (parseMethodDescriptor yX3_isCase.desc).map (fun d => d.parameters.length) = some 3 := by decide +kernel
theorem hd_X3_addRowv : yX3_addRow.cls = RX3 ∧ yX3_addRow.cls ≠ "java/lang/invoke/MethodHandle" ∧ yX3_addRow.cls ≠ "java/lang/invoke/VarHandle" ∧ (parseMethodDescriptor yX3_addRow.desc).map (fun d => d.parameters.length) = some 4 := by decide +kernel
theorem hd_X3_writeSlotv : yX3_writeSlot.cls = RX3 ∧ yX3_writeSlot.cls ≠ "java/lang/invoke/MethodHandle" ∧ yX3_writeSlot.cls ≠ "java/lang/invoke/VarHandle" ∧ (parseMethodDescriptor yX3_writeSlot.desc).map (fun d => d.parameters.length) = some 4 := by decide +kernel
theorem hd_X3_writeStaticv : yX3_writeStatic.cls = RX3 ∧ yX3_writeStatic.cls ≠ "java/lang/invoke/MethodHandle" ∧ yX3_writeStatic.cls ≠ "java/lang/invoke/VarHandle" ∧ (parseMethodDescriptor yX3_writeStatic.desc).map (fun d => d.parameters.length) = some 3 := by decide +kernel
theorem hd_X4_isTruev : yX4_isTrue.cls = RX4 ∧ yX4_isTrue.cls ≠ "java/lang/invoke/MethodHandle" ∧ yX4_isTrue.cls ≠ "java/lang/invoke/VarHandle" ∧ (parseMethodDescriptor yX4_isTrue.desc).map (fun d => d.parameters.length) = some 1 := by decide +kernel
theorem hd_X4_pushv : yX4_push.cls = RX4 ∧ yX4_push.cls ≠ "java/lang/invoke/MethodHandle" ∧ yX4_push.cls ≠ "java/lang/invoke/VarHandle" ∧ (parseMethodDescriptor yX4_push.desc).map (fun d => d.parameters.length) = some 2 := by decide +kernel
theorem hd_X4_decidev : yX4_decide.cls = RX4 ∧ yX4_decide.cls ≠ "java/lang/invoke/MethodHandle" ∧ yX4_decide.cls ≠ "java/lang/invoke/VarHandle" ∧ (parseMethodDescriptor yX4_decide.desc).map (fun d => d.parameters.length) = some 2 := by decide +kernel
theorem hd_X4_giveAtv : yX4_giveAt.cls = RX4 ∧ yX4_giveAt.cls ≠ "java/lang/invoke/MethodHandle" ∧ yX4_giveAt.cls ≠ "java/lang/invoke/VarHandle" ∧ (parseMethodDescriptor yX4_giveAt.desc).map (fun d => d.parameters.length) = some 2 := by decide +kernel
theorem hd_X4_nextThingv : yX4_nextThing.cls = RX4 ∧ yX4_nextThing.cls ≠ "java/lang/invoke/MethodHandle" ∧ yX4_nextThing.cls ≠ "java/lang/invoke/VarHandle" ∧ (parseMethodDescriptor yX4_nextThing.desc).map (fun d => d.parameters.length) = some 1 := by decide +kernel
theorem hd_X4_addReachedv : yX4_addReached.cls = RX4 ∧ yX4_addReached.cls ≠ "java/lang/invoke/MethodHandle" ∧ yX4_addReached.cls ≠ "java/lang/invoke/VarHandle" ∧ (parseMethodDescriptor yX4_addReached.desc).map (fun d => d.parameters.length) = some 2 := by decide +kernel
theorem hd_X4_nextReachedv : yX4_nextReached.cls = RX4 ∧ yX4_nextReached.cls ≠ "java/lang/invoke/MethodHandle" ∧ yX4_nextReached.cls ≠ "java/lang/invoke/VarHandle" ∧ (parseMethodDescriptor yX4_nextReached.desc).map (fun d => d.parameters.length) = some 1 := by decide +kernel
theorem hd_X4_giveNextv : yX4_giveNext.cls = RX4 ∧ yX4_giveNext.cls ≠ "java/lang/invoke/MethodHandle" ∧ yX4_giveNext.cls ≠ "java/lang/invoke/VarHandle" ∧ (parseMethodDescriptor yX4_giveNext.desc).map (fun d => d.parameters.length) = some 1 := by decide +kernel
theorem hd_X4_addNumberv : yX4_addNumber.cls = RX4 ∧ yX4_addNumber.cls ≠ "java/lang/invoke/MethodHandle" ∧ yX4_addNumber.cls ≠ "java/lang/invoke/VarHandle" ∧ (parseMethodDescriptor yX4_addNumber.desc).map (fun d => d.parameters.length) = some 3 := by decide +kernel
theorem hd_X4_addUpv : yX4_addUp.cls = RX4 ∧ yX4_addUp.cls ≠ "java/lang/invoke/MethodHandle" ∧ yX4_addUp.cls ≠ "java/lang/invoke/VarHandle" ∧ (parseMethodDescriptor yX4_addUp.desc).map (fun d => d.parameters.length) = some 1 := by decide +kernel
theorem hd_X4_pushTruthv : yX4_pushTruth.cls = RX4 ∧ yX4_pushTruth.cls ≠ "java/lang/invoke/MethodHandle" ∧ yX4_pushTruth.cls ≠ "java/lang/invoke/VarHandle" ∧ (parseMethodDescriptor yX4_pushTruth.desc).map (fun d => d.parameters.length) = some 1 := by decide +kernel
theorem hd_X4_finishv : yX4_finish.cls = RX4 ∧ yX4_finish.cls ≠ "java/lang/invoke/MethodHandle" ∧ yX4_finish.cls ≠ "java/lang/invoke/VarHandle" ∧ (parseMethodDescriptor yX4_finish.desc).map (fun d => d.parameters.length) = some 1 := by decide +kernel
theorem hd_X4_addRowv : yX4_addRow.cls = RX4 ∧ yX4_addRow.cls ≠ "java/lang/invoke/MethodHandle" ∧ yX4_addRow.cls ≠ "java/lang/invoke/VarHandle" ∧ (parseMethodDescriptor yX4_addRow.desc).map (fun d => d.parameters.length) = some 1 := by decide +kernel
theorem hd_X4_jumpv : yX4_jump.cls = RX4 ∧ yX4_jump.cls ≠ "java/lang/invoke/MethodHandle" ∧ yX4_jump.cls ≠ "java/lang/invoke/VarHandle" ∧ (parseMethodDescriptor yX4_jump.desc).map (fun d => d.parameters.length) = some 2 := by decide +kernel
theorem hd_X4_classesNamedv : yX4_classesNamed.cls = RX4 ∧ yX4_classesNamed.cls ≠ "java/lang/invoke/MethodHandle" ∧ yX4_classesNamed.cls ≠ "java/lang/invoke/VarHandle" ∧ (parseMethodDescriptor yX4_classesNamed.desc).map (fun d => d.parameters.length) = some 2 := by decide +kernel
theorem hd_X4_beginFromv : yX4_beginFrom.cls = RX4 ∧ yX4_beginFrom.cls ≠ "java/lang/invoke/MethodHandle" ∧ yX4_beginFrom.cls ≠ "java/lang/invoke/VarHandle" ∧ (parseMethodDescriptor yX4_beginFrom.desc).map (fun d => d.parameters.length) = some 3 := by decide +kernel
theorem hd_X4_beginSetv : yX4_beginSet.cls = RX4 ∧ yX4_beginSet.cls ≠ "java/lang/invoke/MethodHandle" ∧ yX4_beginSet.cls ≠ "java/lang/invoke/VarHandle" ∧ (parseMethodDescriptor yX4_beginSet.desc).map (fun d => d.parameters.length) = some 2 := by decide +kernel
theorem hd_X4_isLink : yX4_isLink.cls ≠ "java/lang/invoke/MethodHandle" ∧ yX4_isLink.cls ≠ "java/lang/invoke/VarHandle" ∧ (parseMethodDescriptor yX4_isLink.desc).map (fun d => d.parameters.length) = some 1 := by decide +kernel
theorem hd_X4_comparev : yX4_compare.cls = RX4 ∧ yX4_compare.cls ≠ "java/lang/invoke/MethodHandle" ∧ yX4_compare.cls ≠ "java/lang/invoke/VarHandle" ∧ (parseMethodDescriptor yX4_compare.desc).map (fun d => d.parameters.length) = some 4 := by decide +kernel
theorem hd_X4_dividev : yX4_divide.cls = RX4 ∧ yX4_divide.cls ≠ "java/lang/invoke/MethodHandle" ∧ yX4_divide.cls ≠ "java/lang/invoke/VarHandle" ∧ (parseMethodDescriptor yX4_divide.desc).map (fun d => d.parameters.length) = some 3 := by decide +kernel
theorem hd_X4_reckonv : yX4_reckon.cls = RX4 ∧ yX4_reckon.cls ≠ "java/lang/invoke/MethodHandle" ∧ yX4_reckon.cls ≠ "java/lang/invoke/VarHandle" ∧ (parseMethodDescriptor yX4_reckon.desc).map (fun d => d.parameters.length) = some 3 := by decide +kernel
theorem hd_X4_pushSlotv : yX4_pushSlot.cls = RX4 ∧ yX4_pushSlot.cls ≠ "java/lang/invoke/MethodHandle" ∧ yX4_pushSlot.cls ≠ "java/lang/invoke/VarHandle" ∧ (parseMethodDescriptor yX4_pushSlot.desc).map (fun d => d.parameters.length) = some 2 := by decide +kernel
theorem hd_X4_pushElementv : yX4_pushElement.cls = RX4 ∧ yX4_pushElement.cls ≠ "java/lang/invoke/MethodHandle" ∧ yX4_pushElement.cls ≠ "java/lang/invoke/VarHandle" ∧ (parseMethodDescriptor yX4_pushElement.desc).map (fun d => d.parameters.length) = some 2 := by decide +kernel
theorem hd_X4_doTwov : yX4_doTwo.cls = RX4 ∧ yX4_doTwo.cls ≠ "java/lang/invoke/MethodHandle" ∧ yX4_doTwo.cls ≠ "java/lang/invoke/VarHandle" ∧ (parseMethodDescriptor yX4_doTwo.desc).map (fun d => d.parameters.length) = some 1 := by decide +kernel
theorem hd_X10_sizeOfv : yX10_sizeOf.cls = RX10 ∧ yX10_sizeOf.cls ≠ "java/lang/invoke/MethodHandle" ∧ yX10_sizeOf.cls ≠ "java/lang/invoke/VarHandle" ∧ (parseMethodDescriptor yX10_sizeOf.desc).map (fun d => d.parameters.length) = some 2 := by decide +kernel
theorem hd_X10_slotNamedv : yX10_slotNamed.cls = RX10 ∧ yX10_slotNamed.cls ≠ "java/lang/invoke/MethodHandle" ∧ yX10_slotNamed.cls ≠ "java/lang/invoke/VarHandle" ∧ (parseMethodDescriptor yX10_slotNamed.desc).map (fun d => d.parameters.length) = some 2 := by decide +kernel
theorem hd_X4_lookAtv : yX4_lookAt.cls = RX4 ∧ yX4_lookAt.cls ≠ "java/lang/invoke/MethodHandle" ∧ yX4_lookAt.cls ≠ "java/lang/invoke/VarHandle" ∧ (parseMethodDescriptor yX4_lookAt.desc).map (fun d => d.parameters.length) = some 3 := by decide +kernel
theorem hd_X4_doOnev : yX4_doOne.cls = RX4 ∧ yX4_doOne.cls ≠ "java/lang/invoke/MethodHandle" ∧ yX4_doOne.cls ≠ "java/lang/invoke/VarHandle" ∧ (parseMethodDescriptor yX4_doOne.desc).map (fun d => d.parameters.length) = some 2 := by decide +kernel
theorem hd_X4_pushThingv : yX4_pushThing.cls = RX4 ∧ yX4_pushThing.cls ≠ "java/lang/invoke/MethodHandle" ∧ yX4_pushThing.cls ≠ "java/lang/invoke/VarHandle" ∧ (parseMethodDescriptor yX4_pushThing.desc).map (fun d => d.parameters.length) = some 1 := by decide +kernel
theorem hd_X4_doLeafv : yX4_doLeaf.cls = RX4 ∧ yX4_doLeaf.cls ≠ "java/lang/invoke/MethodHandle" ∧ yX4_doLeaf.cls ≠ "java/lang/invoke/VarHandle" ∧ (parseMethodDescriptor yX4_doLeaf.desc).map (fun d => d.parameters.length) = some 2 := by decide +kernel
theorem hd_X4_executev : yX4_execute.cls = RX4 ∧ yX4_execute.cls ≠ "java/lang/invoke/MethodHandle" ∧ yX4_execute.cls ≠ "java/lang/invoke/VarHandle" ∧ (parseMethodDescriptor yX4_execute.desc).map (fun d => d.parameters.length) = some 1 := by decide +kernel
theorem hd_X8_meetingv : yX8_meeting.cls = RX8 ∧ yX8_meeting.cls ≠ "java/lang/invoke/MethodHandle" ∧ yX8_meeting.cls ≠ "java/lang/invoke/VarHandle" ∧ (parseMethodDescriptor yX8_meeting.desc).map (fun d => d.parameters.length) = some 2 := by decide +kernel
theorem hd_X8_commonDominatorv : yX8_commonDominator.cls = RX8 ∧ yX8_commonDominator.cls ≠ "java/lang/invoke/MethodHandle" ∧ yX8_commonDominator.cls ≠ "java/lang/invoke/VarHandle" ∧ (parseMethodDescriptor yX8_commonDominator.desc).map (fun d => d.parameters.length) = some 1 := by decide +kernel
theorem hd_X8_needDominatorsv : yX8_needDominators.cls = RX8 ∧ yX8_needDominators.cls ≠ "java/lang/invoke/MethodHandle" ∧ yX8_needDominators.cls ≠ "java/lang/invoke/VarHandle" ∧ (parseMethodDescriptor yX8_needDominators.desc).map (fun d => d.parameters.length) = some 1 := by decide +kernel
theorem hd_X8_addHolderv : yX8_addHolder.cls = RX8 ∧ yX8_addHolder.cls ≠ "java/lang/invoke/MethodHandle" ∧ yX8_addHolder.cls ≠ "java/lang/invoke/VarHandle" ∧ (parseMethodDescriptor yX8_addHolder.desc).map (fun d => d.parameters.length) = some 3 := by decide +kernel
theorem hd_X8_needHoldersv : yX8_needHolders.cls = RX8 ∧ yX8_needHolders.cls ≠ "java/lang/invoke/MethodHandle" ∧ yX8_needHolders.cls ≠ "java/lang/invoke/VarHandle" ∧ (parseMethodDescriptor yX8_needHolders.desc).map (fun d => d.parameters.length) = some 1 := by decide +kernel
theorem hd_X5_meetv : yX5_meet.cls = RX5 ∧ yX5_meet.cls ≠ "java/lang/invoke/MethodHandle" ∧ yX5_meet.cls ≠ "java/lang/invoke/VarHandle" ∧ (parseMethodDescriptor yX5_meet.desc).map (fun d => d.parameters.length) = some 4 := by decide +kernel
theorem hd_X5_takeSlotsv : yX5_takeSlots.cls = RX5 ∧ yX5_takeSlots.cls ≠ "java/lang/invoke/MethodHandle" ∧ yX5_takeSlots.cls ≠ "java/lang/invoke/VarHandle" ∧ (parseMethodDescriptor yX5_takeSlots.desc).map (fun d => d.parameters.length) = some 2 := by decide +kernel
theorem hd_X5_meetRootv : yX5_meetRoot.cls = RX5 ∧ yX5_meetRoot.cls ≠ "java/lang/invoke/MethodHandle" ∧ yX5_meetRoot.cls ≠ "java/lang/invoke/VarHandle" ∧ (parseMethodDescriptor yX5_meetRoot.desc).map (fun d => d.parameters.length) = some 3 := by decide +kernel
theorem hd_X5_needDominatorsv : yX5_needDominators.cls = RX5 ∧ yX5_needDominators.cls ≠ "java/lang/invoke/MethodHandle" ∧ yX5_needDominators.cls ≠ "java/lang/invoke/VarHandle" ∧ (parseMethodDescriptor yX5_needDominators.desc).map (fun d => d.parameters.length) = some 0 := by decide +kernel
theorem hd_X8_linksItself : yX8_linksItself.cls ≠ "java/lang/invoke/MethodHandle" ∧ yX8_linksItself.cls ≠ "java/lang/invoke/VarHandle" ∧ (parseMethodDescriptor yX8_linksItself.desc).map (fun d => d.parameters.length) = some 2 := by decide +kernel
theorem hd_X8_numberRingsv : yX8_numberRings.cls = RX8 ∧ yX8_numberRings.cls ≠ "java/lang/invoke/MethodHandle" ∧ yX8_numberRings.cls ≠ "java/lang/invoke/VarHandle" ∧ (parseMethodDescriptor yX8_numberRings.desc).map (fun d => d.parameters.length) = some 1 := by decide +kernel
theorem hd_X8_enterv : yX8_enter.cls = RX8 ∧ yX8_enter.cls ≠ "java/lang/invoke/MethodHandle" ∧ yX8_enter.cls ≠ "java/lang/invoke/VarHandle" ∧ (parseMethodDescriptor yX8_enter.desc).map (fun d => d.parameters.length) = some 2 := by decide +kernel
theorem hd_X8_nextLinkv : yX8_nextLink.cls = RX8 ∧ yX8_nextLink.cls ≠ "java/lang/invoke/MethodHandle" ∧ yX8_nextLink.cls ≠ "java/lang/invoke/VarHandle" ∧ (parseMethodDescriptor yX8_nextLink.desc).map (fun d => d.parameters.length) = some 2 := by decide +kernel
theorem hd_X8_closeRingv : yX8_closeRing.cls = RX8 ∧ yX8_closeRing.cls ≠ "java/lang/invoke/MethodHandle" ∧ yX8_closeRing.cls ≠ "java/lang/invoke/VarHandle" ∧ (parseMethodDescriptor yX8_closeRing.desc).map (fun d => d.parameters.length) = some 2 := by decide +kernel
theorem hd_X8_explorev : yX8_explore.cls = RX8 ∧ yX8_explore.cls ≠ "java/lang/invoke/MethodHandle" ∧ yX8_explore.cls ≠ "java/lang/invoke/VarHandle" ∧ (parseMethodDescriptor yX8_explore.desc).map (fun d => d.parameters.length) = some 3 := by decide +kernel
theorem hd_X8_needRingsv : yX8_needRings.cls = RX8 ∧ yX8_needRings.cls ≠ "java/lang/invoke/MethodHandle" ∧ yX8_needRings.cls ≠ "java/lang/invoke/VarHandle" ∧ (parseMethodDescriptor yX8_needRings.desc).map (fun d => d.parameters.length) = some 1 := by decide +kernel
theorem hd_X5_memberOfv : yX5_memberOf.cls = RX5 ∧ yX5_memberOf.cls ≠ "java/lang/invoke/MethodHandle" ∧ yX5_memberOf.cls ≠ "java/lang/invoke/VarHandle" ∧ (parseMethodDescriptor yX5_memberOf.desc).map (fun d => d.parameters.length) = some 3 := by decide +kernel
theorem hd_J7_fill_53178 : yJ7_fill_53178.cls ≠ "java/lang/invoke/MethodHandle" ∧ yJ7_fill_53178.cls ≠ "java/lang/invoke/VarHandle" ∧ (parseMethodDescriptor yJ7_fill_53178.desc).map (fun d => d.parameters.length) = some 2 := by decide +kernel
theorem hd_X8_bucketOf : yX8_bucketOf.cls ≠ "java/lang/invoke/MethodHandle" ∧ yX8_bucketOf.cls ≠ "java/lang/invoke/VarHandle" ∧ (parseMethodDescriptor yX8_bucketOf.desc).map (fun d => d.parameters.length) = some 2 := by decide +kernel
theorem hd_X8_isTwin : yX8_isTwin.cls ≠ "java/lang/invoke/MethodHandle" ∧ yX8_isTwin.cls ≠ "java/lang/invoke/VarHandle" ∧ (parseMethodDescriptor yX8_isTwin.desc).map (fun d => d.parameters.length) = some 3 := by decide +kernel
theorem hd_X8_needTwinsv : yX8_needTwins.cls = RX8 ∧ yX8_needTwins.cls ≠ "java/lang/invoke/MethodHandle" ∧ yX8_needTwins.cls ≠ "java/lang/invoke/VarHandle" ∧ (parseMethodDescriptor yX8_needTwins.desc).map (fun d => d.parameters.length) = some 1 := by decide +kernel
theorem hd_X5_reachv : yX5_reach.cls = RX5 ∧ yX5_reach.cls ≠ "java/lang/invoke/MethodHandle" ∧ yX5_reach.cls ≠ "java/lang/invoke/VarHandle" ∧ (parseMethodDescriptor yX5_reach.desc).map (fun d => d.parameters.length) = some 2 := by decide +kernel
theorem hd_X5_isSamev : yX5_isSame.cls = RX5 ∧ yX5_isSame.cls ≠ "java/lang/invoke/MethodHandle" ∧ yX5_isSame.cls ≠ "java/lang/invoke/VarHandle" ∧ (parseMethodDescriptor yX5_isSame.desc).map (fun d => d.parameters.length) = some 3 := by decide +kernel
theorem hd_X5_pairSlotsv : yX5_pairSlots.cls = RX5 ∧ yX5_pairSlots.cls ≠ "java/lang/invoke/MethodHandle" ∧ yX5_pairSlots.cls ≠ "java/lang/invoke/VarHandle" ∧ (parseMethodDescriptor yX5_pairSlots.desc).map (fun d => d.parameters.length) = some 3 := by decide +kernel
theorem hd_X9_isDigit : yX9_isDigit.cls ≠ "java/lang/invoke/MethodHandle" ∧ yX9_isDigit.cls ≠ "java/lang/invoke/VarHandle" ∧ (parseMethodDescriptor yX9_isDigit.desc).map (fun d => d.parameters.length) = some 1 := by decide +kernel
theorem hd_X9_symbolOf : yX9_symbolOf.cls ≠ "java/lang/invoke/MethodHandle" ∧ yX9_symbolOf.cls ≠ "java/lang/invoke/VarHandle" ∧ (parseMethodDescriptor yX9_symbolOf.desc).map (fun d => d.parameters.length) = some 1 := by decide +kernel
theorem hd_J0_isLatin1_aae02v : yJ0_isLatin1_aae02.cls = RJ0 ∧ yJ0_isLatin1_aae02.cls ≠ "java/lang/invoke/MethodHandle" ∧ yJ0_isLatin1_aae02.cls ≠ "java/lang/invoke/VarHandle" ∧ (parseMethodDescriptor yJ0_isLatin1_aae02.desc).map (fun d => d.parameters.length) = some 0 := by decide +kernel
theorem hd_J0_coder_7d493v : yJ0_coder_7d493.cls = RJ0 ∧ yJ0_coder_7d493.cls ≠ "java/lang/invoke/MethodHandle" ∧ yJ0_coder_7d493.cls ≠ "java/lang/invoke/VarHandle" ∧ (parseMethodDescriptor yJ0_coder_7d493.desc).map (fun d => d.parameters.length) = some 0 := by decide +kernel
theorem hd_J0_length_8abf5v : yJ0_length_8abf5.cls = RJ0 ∧ yJ0_length_8abf5.cls ≠ "java/lang/invoke/MethodHandle" ∧ yJ0_length_8abf5.cls ≠ "java/lang/invoke/VarHandle" ∧ (parseMethodDescriptor yJ0_length_8abf5.desc).map (fun d => d.parameters.length) = some 0 := by decide +kernel
theorem hd_J1_canEncode_9a6ad : yJ1_canEncode_9a6ad.cls ≠ "java/lang/invoke/MethodHandle" ∧ yJ1_canEncode_9a6ad.cls ≠ "java/lang/invoke/VarHandle" ∧ (parseMethodDescriptor yJ1_canEncode_9a6ad.desc).map (fun d => d.parameters.length) = some 1 := by decide +kernel
theorem hd_J1_indexOfChar_4cfef : yJ1_indexOfChar_4cfef.cls ≠ "java/lang/invoke/MethodHandle" ∧ yJ1_indexOfChar_4cfef.cls ≠ "java/lang/invoke/VarHandle" ∧ (parseMethodDescriptor yJ1_indexOfChar_4cfef.desc).map (fun d => d.parameters.length) = some 4 := by decide +kernel
theorem hd_J1_indexOf_4cfef : yJ1_indexOf_4cfef.cls ≠ "java/lang/invoke/MethodHandle" ∧ yJ1_indexOf_4cfef.cls ≠ "java/lang/invoke/VarHandle" ∧ (parseMethodDescriptor yJ1_indexOf_4cfef.desc).map (fun d => d.parameters.length) = some 4 := by decide +kernel
theorem hd_J0_indexOf_7cf53v : yJ0_indexOf_7cf53.cls = RJ0 ∧ yJ0_indexOf_7cf53.cls ≠ "java/lang/invoke/MethodHandle" ∧ yJ0_indexOf_7cf53.cls ≠ "java/lang/invoke/VarHandle" ∧ (parseMethodDescriptor yJ0_indexOf_7cf53.desc).map (fun d => d.parameters.length) = some 2 := by decide +kernel
theorem hd_J0_indexOf_0f7a4v : yJ0_indexOf_0f7a4.cls = RJ0 ∧ yJ0_indexOf_0f7a4.cls ≠ "java/lang/invoke/MethodHandle" ∧ yJ0_indexOf_0f7a4.cls ≠ "java/lang/invoke/VarHandle" ∧ (parseMethodDescriptor yJ0_indexOf_0f7a4.desc).map (fun d => d.parameters.length) = some 1 := by decide +kernel
theorem hd_X9_scanSignv : yX9_scanSign.cls = RX9 ∧ yX9_scanSign.cls ≠ "java/lang/invoke/MethodHandle" ∧ yX9_scanSign.cls ≠ "java/lang/invoke/VarHandle" ∧ (parseMethodDescriptor yX9_scanSign.desc).map (fun d => d.parameters.length) = some 0 := by decide +kernel
theorem hd_X9_keywordOfv : yX9_keywordOf.cls = RX9 ∧ yX9_keywordOf.cls ≠ "java/lang/invoke/MethodHandle" ∧ yX9_keywordOf.cls ≠ "java/lang/invoke/VarHandle" ∧ (parseMethodDescriptor yX9_keywordOf.desc).map (fun d => d.parameters.length) = some 1 := by decide +kernel
theorem hd_X9_scanNamev : yX9_scanName.cls = RX9 ∧ yX9_scanName.cls ≠ "java/lang/invoke/MethodHandle" ∧ yX9_scanName.cls ≠ "java/lang/invoke/VarHandle" ∧ (parseMethodDescriptor yX9_scanName.desc).map (fun d => d.parameters.length) = some 0 := by decide +kernel
theorem hd_X9_scanNumberv : yX9_scanNumber.cls = RX9 ∧ yX9_scanNumber.cls ≠ "java/lang/invoke/MethodHandle" ∧ yX9_scanNumber.cls ≠ "java/lang/invoke/VarHandle" ∧ (parseMethodDescriptor yX9_scanNumber.desc).map (fun d => d.parameters.length) = some 0 := by decide +kernel
theorem hd_X9_isBlank : yX9_isBlank.cls ≠ "java/lang/invoke/MethodHandle" ∧ yX9_isBlank.cls ≠ "java/lang/invoke/VarHandle" ∧ (parseMethodDescriptor yX9_isBlank.desc).map (fun d => d.parameters.length) = some 1 := by decide +kernel
theorem hd_X9_scanWordv : yX9_scanWord.cls = RX9 ∧ yX9_scanWord.cls ≠ "java/lang/invoke/MethodHandle" ∧ yX9_scanWord.cls ≠ "java/lang/invoke/VarHandle" ∧ (parseMethodDescriptor yX9_scanWord.desc).map (fun d => d.parameters.length) = some 0 := by decide +kernel
theorem hd_X9_nextWordv : yX9_nextWord.cls = RX9 ∧ yX9_nextWord.cls ≠ "java/lang/invoke/MethodHandle" ∧ yX9_nextWord.cls ≠ "java/lang/invoke/VarHandle" ∧ (parseMethodDescriptor yX9_nextWord.desc).map (fun d => d.parameters.length) = some 0 := by decide +kernel
theorem hd_X9_startWordsv : yX9_startWords.cls = RX9 ∧ yX9_startWords.cls ≠ "java/lang/invoke/MethodHandle" ∧ yX9_startWords.cls ≠ "java/lang/invoke/VarHandle" ∧ (parseMethodDescriptor yX9_startWords.desc).map (fun d => d.parameters.length) = some 0 := by decide +kernel
theorem hd_X6_startv : yX6_start.cls = RX6 ∧ yX6_start.cls ≠ "java/lang/invoke/MethodHandle" ∧ yX6_start.cls ≠ "java/lang/invoke/VarHandle" ∧ (parseMethodDescriptor yX6_start.desc).map (fun d => d.parameters.length) = some 0 := by decide +kernel
theorem hd_X6_readAndsv : yX6_readAnds.cls = RX6 ∧ yX6_readAnds.cls ≠ "java/lang/invoke/MethodHandle" ∧ yX6_readAnds.cls ≠ "java/lang/invoke/VarHandle" ∧ (parseMethodDescriptor yX6_readAnds.desc).map (fun d => d.parameters.length) = some 0 := by decide +kernel
theorem hd_X6_failv : yX6_fail.cls = RX6 ∧ yX6_fail.cls ≠ "java/lang/invoke/MethodHandle" ∧ yX6_fail.cls ≠ "java/lang/invoke/VarHandle" ∧ (parseMethodDescriptor yX6_fail.desc).map (fun d => d.parameters.length) = some 1 := by decide +kernel
theorem hd_X6_addNodev : yX6_addNode.cls = RX6 ∧ yX6_addNode.cls ≠ "java/lang/invoke/MethodHandle" ∧ yX6_addNode.cls ≠ "java/lang/invoke/VarHandle" ∧ (parseMethodDescriptor yX6_addNode.desc).map (fun d => d.parameters.length) = some 0 := by decide +kernel
theorem hd_X6_emitv : yX6_emit.cls = RX6 ∧ yX6_emit.cls ≠ "java/lang/invoke/MethodHandle" ∧ yX6_emit.cls ≠ "java/lang/invoke/VarHandle" ∧ (parseMethodDescriptor yX6_emit.desc).map (fun d => d.parameters.length) = some 4 := by decide +kernel
theorem hd_X6_readNotsv : yX6_readNots.cls = RX6 ∧ yX6_readNots.cls ≠ "java/lang/invoke/MethodHandle" ∧ yX6_readNots.cls ≠ "java/lang/invoke/VarHandle" ∧ (parseMethodDescriptor yX6_readNots.desc).map (fun d => d.parameters.length) = some 0 := by decide +kernel
theorem hd_X6_readComparisonv : yX6_readComparison.cls = RX6 ∧ yX6_readComparison.cls ≠ "java/lang/invoke/MethodHandle" ∧ yX6_readComparison.cls ≠ "java/lang/invoke/VarHandle" ∧ (parseMethodDescriptor yX6_readComparison.desc).map (fun d => d.parameters.length) = some 0 := by decide +kernel
theorem hd_X6_readSumsv : yX6_readSums.cls = RX6 ∧ yX6_readSums.cls ≠ "java/lang/invoke/MethodHandle" ∧ yX6_readSums.cls ≠ "java/lang/invoke/VarHandle" ∧ (parseMethodDescriptor yX6_readSums.desc).map (fun d => d.parameters.length) = some 0 := by decide +kernel
theorem hd_X6_comparisonOf : yX6_comparisonOf.cls ≠ "java/lang/invoke/MethodHandle" ∧ yX6_comparisonOf.cls ≠ "java/lang/invoke/VarHandle" ∧ (parseMethodDescriptor yX6_comparisonOf.desc).map (fun d => d.parameters.length) = some 1 := by decide +kernel
theorem hd_X6_refusev : yX6_refuse.cls = RX6 ∧ yX6_refuse.cls ≠ "java/lang/invoke/MethodHandle" ∧ yX6_refuse.cls ≠ "java/lang/invoke/VarHandle" ∧ (parseMethodDescriptor yX6_refuse.desc).map (fun d => d.parameters.length) = some 0 := by decide +kernel
theorem hd_X6_passv : yX6_pass.cls = RX6 ∧ yX6_pass.cls ≠ "java/lang/invoke/MethodHandle" ∧ yX6_pass.cls ≠ "java/lang/invoke/VarHandle" ∧ (parseMethodDescriptor yX6_pass.desc).map (fun d => d.parameters.length) = some 1 := by decide +kernel
theorem hd_X6_readProductsv : yX6_readProducts.cls = RX6 ∧ yX6_readProducts.cls ≠ "java/lang/invoke/MethodHandle" ∧ yX6_readProducts.cls ≠ "java/lang/invoke/VarHandle" ∧ (parseMethodDescriptor yX6_readProducts.desc).map (fun d => d.parameters.length) = some 0 := by decide +kernel
theorem hd_X6_readSignedv : yX6_readSigned.cls = RX6 ∧ yX6_readSigned.cls ≠ "java/lang/invoke/MethodHandle" ∧ yX6_readSigned.cls ≠ "java/lang/invoke/VarHandle" ∧ (parseMethodDescriptor yX6_readSigned.desc).map (fun d => d.parameters.length) = some 0 := by decide +kernel
theorem hd_X6_readPv : yX6_readP.cls = RX6 ∧ yX6_readP.cls ≠ "java/lang/invoke/MethodHandle" ∧ yX6_readP.cls ≠ "java/lang/invoke/VarHandle" ∧ (parseMethodDescriptor yX6_readP.desc).map (fun d => d.parameters.length) = some 0 := by decide +kernel
theorem hd_X6_readAtomv : yX6_readAtom.cls = RX6 ∧ yX6_readAtom.cls ≠ "java/lang/invoke/MethodHandle" ∧ yX6_readAtom.cls ≠ "java/lang/invoke/VarHandle" ∧ (parseMethodDescriptor yX6_readAtom.desc).map (fun d => d.parameters.length) = some 0 := by decide +kernel
theorem hd_X6_readTailv : yX6_readTail.cls = RX6 ∧ yX6_readTail.cls ≠ "java/lang/invoke/MethodHandle" ∧ yX6_readTail.cls ≠ "java/lang/invoke/VarHandle" ∧ (parseMethodDescriptor yX6_readTail.desc).map (fun d => d.parameters.length) = some 0 := by decide +kernel
theorem hd_X6_readEv : yX6_readE.cls = RX6 ∧ yX6_readE.cls ≠ "java/lang/invoke/MethodHandle" ∧ yX6_readE.cls ≠ "java/lang/invoke/VarHandle" ∧ (parseMethodDescriptor yX6_readE.desc).map (fun d => d.parameters.length) = some 0 := by decide +kernel
theorem hd_X6_addNestv : yX6_addNest.cls = RX6 ∧ yX6_addNest.cls ≠ "java/lang/invoke/MethodHandle" ∧ yX6_addNest.cls ≠ "java/lang/invoke/VarHandle" ∧ (parseMethodDescriptor yX6_addNest.desc).map (fun d => d.parameters.length) = some 0 := by decide +kernel
theorem hd_X6_readLeafv : yX6_readLeaf.cls = RX6 ∧ yX6_readLeaf.cls ≠ "java/lang/invoke/MethodHandle" ∧ yX6_readLeaf.cls ≠ "java/lang/invoke/VarHandle" ∧ (parseMethodDescriptor yX6_readLeaf.desc).map (fun d => d.parameters.length) = some 3 := by decide +kernel
theorem hd_X6_readVariablev : yX6_readVariable.cls = RX6 ∧ yX6_readVariable.cls ≠ "java/lang/invoke/MethodHandle" ∧ yX6_readVariable.cls ≠ "java/lang/invoke/VarHandle" ∧ (parseMethodDescriptor yX6_readVariable.desc).map (fun d => d.parameters.length) = some 0 := by decide +kernel
theorem hd_X6_readInnerv : yX6_readInner.cls = RX6 ∧ yX6_readInner.cls ≠ "java/lang/invoke/MethodHandle" ∧ yX6_readInner.cls ≠ "java/lang/invoke/VarHandle" ∧ (parseMethodDescriptor yX6_readInner.desc).map (fun d => d.parameters.length) = some 0 := by decide +kernel
theorem hd_X6_readThingv : yX6_readThing.cls = RX6 ∧ yX6_readThing.cls ≠ "java/lang/invoke/MethodHandle" ∧ yX6_readThing.cls ≠ "java/lang/invoke/VarHandle" ∧ (parseMethodDescriptor yX6_readThing.desc).map (fun d => d.parameters.length) = some 0 := by decide +kernel
theorem hd_X6_readFoldv : yX6_readFold.cls = RX6 ∧ yX6_readFold.cls ≠ "java/lang/invoke/MethodHandle" ∧ yX6_readFold.cls ≠ "java/lang/invoke/VarHandle" ∧ (parseMethodDescriptor yX6_readFold.desc).map (fun d => d.parameters.length) = some 0 := by decide +kernel
theorem hd_X6_readSetv : yX6_readSet.cls = RX6 ∧ yX6_readSet.cls ≠ "java/lang/invoke/MethodHandle" ∧ yX6_readSet.cls ≠ "java/lang/invoke/VarHandle" ∧ (parseMethodDescriptor yX6_readSet.desc).map (fun d => d.parameters.length) = some 1 := by decide +kernel
theorem hd_X6_readFoldBodyv : yX6_readFoldBody.cls = RX6 ∧ yX6_readFoldBody.cls ≠ "java/lang/invoke/MethodHandle" ∧ yX6_readFoldBody.cls ≠ "java/lang/invoke/VarHandle" ∧ (parseMethodDescriptor yX6_readFoldBody.desc).map (fun d => d.parameters.length) = some 2 := by decide +kernel
theorem hd_X6_readWherev : yX6_readWhere.cls = RX6 ∧ yX6_readWhere.cls ≠ "java/lang/invoke/MethodHandle" ∧ yX6_readWhere.cls ≠ "java/lang/invoke/VarHandle" ∧ (parseMethodDescriptor yX6_readWhere.desc).map (fun d => d.parameters.length) = some 1 := by decide +kernel
theorem hd_X7_isPlainNamev : yX7_isPlainName.cls = RX7 ∧ yX7_isPlainName.cls ≠ "java/lang/invoke/MethodHandle" ∧ yX7_isPlainName.cls ≠ "java/lang/invoke/VarHandle" ∧ (parseMethodDescriptor yX7_isPlainName.desc).map (fun d => d.parameters.length) = some 0 := by decide +kernel
theorem hd_X7_relationOfv : yX7_relationOf.cls = RX7 ∧ yX7_relationOf.cls ≠ "java/lang/invoke/MethodHandle" ∧ yX7_relationOf.cls ≠ "java/lang/invoke/VarHandle" ∧ (parseMethodDescriptor yX7_relationOf.desc).map (fun d => d.parameters.length) = some 1 := by decide +kernel
theorem hd_X7_refusev : yX7_refuse.cls = RX7 ∧ yX7_refuse.cls ≠ "java/lang/invoke/MethodHandle" ∧ yX7_refuse.cls ≠ "java/lang/invoke/VarHandle" ∧ (parseMethodDescriptor yX7_refuse.desc).map (fun d => d.parameters.length) = some 0 := by decide +kernel
theorem hd_X7_passv : yX7_pass.cls = RX7 ∧ yX7_pass.cls ≠ "java/lang/invoke/MethodHandle" ∧ yX7_pass.cls ≠ "java/lang/invoke/VarHandle" ∧ (parseMethodDescriptor yX7_pass.desc).map (fun d => d.parameters.length) = some 1 := by decide +kernel
theorem hd_X7_variableOfv : yX7_variableOf.cls = RX7 ∧ yX7_variableOf.cls ≠ "java/lang/invoke/MethodHandle" ∧ yX7_variableOf.cls ≠ "java/lang/invoke/VarHandle" ∧ (parseMethodDescriptor yX7_variableOf.desc).map (fun d => d.parameters.length) = some 1 := by decide +kernel
theorem hd_X7_failv : yX7_fail.cls = RX7 ∧ yX7_fail.cls ≠ "java/lang/invoke/MethodHandle" ∧ yX7_fail.cls ≠ "java/lang/invoke/VarHandle" ∧ (parseMethodDescriptor yX7_fail.desc).map (fun d => d.parameters.length) = some 2 := by decide +kernel
theorem hd_X7_readVariablev : yX7_readVariable.cls = RX7 ∧ yX7_readVariable.cls ≠ "java/lang/invoke/MethodHandle" ∧ yX7_readVariable.cls ≠ "java/lang/invoke/VarHandle" ∧ (parseMethodDescriptor yX7_readVariable.desc).map (fun d => d.parameters.length) = some 0 := by decide +kernel
theorem hd_X7_readPairv : yX7_readPair.cls = RX7 ∧ yX7_readPair.cls ≠ "java/lang/invoke/MethodHandle" ∧ yX7_readPair.cls ≠ "java/lang/invoke/VarHandle" ∧ (parseMethodDescriptor yX7_readPair.desc).map (fun d => d.parameters.length) = some 5 := by decide +kernel
theorem hd_X7_readPartv : yX7_readPart.cls = RX7 ∧ yX7_readPart.cls ≠ "java/lang/invoke/MethodHandle" ∧ yX7_readPart.cls ≠ "java/lang/invoke/VarHandle" ∧ (parseMethodDescriptor yX7_readPart.desc).map (fun d => d.parameters.length) = some 1 := by decide +kernel
theorem hd_X7_readBodyv : yX7_readBody.cls = RX7 ∧ yX7_readBody.cls ≠ "java/lang/invoke/MethodHandle" ∧ yX7_readBody.cls ≠ "java/lang/invoke/VarHandle" ∧ (parseMethodDescriptor yX7_readBody.desc).map (fun d => d.parameters.length) = some 0 := by decide +kernel
theorem hd_X7_readRulev : yX7_readRule.cls = RX7 ∧ yX7_readRule.cls ≠ "java/lang/invoke/MethodHandle" ∧ yX7_readRule.cls ≠ "java/lang/invoke/VarHandle" ∧ (parseMethodDescriptor yX7_readRule.desc).map (fun d => d.parameters.length) = some 0 := by decide +kernel
theorem hd_X10_firstBytev : yX10_firstByte.cls = RX10 ∧ yX10_firstByte.cls ≠ "java/lang/invoke/MethodHandle" ∧ yX10_firstByte.cls ≠ "java/lang/invoke/VarHandle" ∧ (parseMethodDescriptor yX10_firstByte.desc).map (fun d => d.parameters.length) = some 2 := by decide +kernel
theorem hd_X9_putReadyv : yX9_putReady.cls = RX9 ∧ yX9_putReady.cls ≠ "java/lang/invoke/MethodHandle" ∧ yX9_putReady.cls ≠ "java/lang/invoke/VarHandle" ∧ (parseMethodDescriptor yX9_putReady.desc).map (fun d => d.parameters.length) = some 2 := by decide +kernel
theorem hd_X9_takeReadyv : yX9_takeReady.cls = RX9 ∧ yX9_takeReady.cls ≠ "java/lang/invoke/MethodHandle" ∧ yX9_takeReady.cls ≠ "java/lang/invoke/VarHandle" ∧ (parseMethodDescriptor yX9_takeReady.desc).map (fun d => d.parameters.length) = some 1 := by decide +kernel
theorem hd_X9_wholeNamev : yX9_wholeName.cls = RX9 ∧ yX9_wholeName.cls ≠ "java/lang/invoke/MethodHandle" ∧ yX9_wholeName.cls ≠ "java/lang/invoke/VarHandle" ∧ (parseMethodDescriptor yX9_wholeName.desc).map (fun d => d.parameters.length) = some 0 := by decide +kernel
theorem hd_X10_hasNamev : yX10_hasName.cls = RX10 ∧ yX10_hasName.cls ≠ "java/lang/invoke/MethodHandle" ∧ yX10_hasName.cls ≠ "java/lang/invoke/VarHandle" ∧ (parseMethodDescriptor yX10_hasName.desc).map (fun d => d.parameters.length) = some 2 := by decide +kernel
theorem hd_X10_addClassv : yX10_addClass.cls = RX10 ∧ yX10_addClass.cls ≠ "java/lang/invoke/MethodHandle" ∧ yX10_addClass.cls ≠ "java/lang/invoke/VarHandle" ∧ (parseMethodDescriptor yX10_addClass.desc).map (fun d => d.parameters.length) = some 3 := by decide +kernel
theorem hd_X10_hasFieldNamedv : yX10_hasFieldNamed.cls = RX10 ∧ yX10_hasFieldNamed.cls ≠ "java/lang/invoke/MethodHandle" ∧ yX10_hasFieldNamed.cls ≠ "java/lang/invoke/VarHandle" ∧ (parseMethodDescriptor yX10_hasFieldNamed.desc).map (fun d => d.parameters.length) = some 2 := by decide +kernel
theorem hd_X10_addFieldv : yX10_addField.cls = RX10 ∧ yX10_addField.cls ≠ "java/lang/invoke/MethodHandle" ∧ yX10_addField.cls ≠ "java/lang/invoke/VarHandle" ∧ (parseMethodDescriptor yX10_addField.desc).map (fun d => d.parameters.length) = some 5 := by decide +kernel
theorem hd_X2_countOfv : yX2_countOf.cls = RX2 ∧ yX2_countOf.cls ≠ "java/lang/invoke/MethodHandle" ∧ yX2_countOf.cls ≠ "java/lang/invoke/VarHandle" ∧ (parseMethodDescriptor yX2_countOf.desc).map (fun d => d.parameters.length) = some 1 := by decide +kernel
theorem hd_X10_hasFieldv : yX10_hasField.cls = RX10 ∧ yX10_hasField.cls ≠ "java/lang/invoke/MethodHandle" ∧ yX10_hasField.cls ≠ "java/lang/invoke/VarHandle" ∧ (parseMethodDescriptor yX10_hasField.desc).map (fun d => d.parameters.length) = some 2 := by decide +kernel
theorem hd_X2_rootPlacev : yX2_rootPlace.cls = RX2 ∧ yX2_rootPlace.cls ≠ "java/lang/invoke/MethodHandle" ∧ yX2_rootPlace.cls ≠ "java/lang/invoke/VarHandle" ∧ (parseMethodDescriptor yX2_rootPlace.desc).map (fun d => d.parameters.length) = some 1 := by decide +kernel
theorem hd_X2_dropRootv : yX2_dropRoot.cls = RX2 ∧ yX2_dropRoot.cls ≠ "java/lang/invoke/MethodHandle" ∧ yX2_dropRoot.cls ≠ "java/lang/invoke/VarHandle" ∧ (parseMethodDescriptor yX2_dropRoot.desc).map (fun d => d.parameters.length) = some 1 := by decide +kernel
theorem hd_X2_hasSlotv : yX2_hasSlot.cls = RX2 ∧ yX2_hasSlot.cls ≠ "java/lang/invoke/MethodHandle" ∧ yX2_hasSlot.cls ≠ "java/lang/invoke/VarHandle" ∧ (parseMethodDescriptor yX2_hasSlot.desc).map (fun d => d.parameters.length) = some 2 := by decide +kernel
theorem hd_X2_isValuev : yX2_isValue.cls = RX2 ∧ yX2_isValue.cls ≠ "java/lang/invoke/MethodHandle" ∧ yX2_isValue.cls ≠ "java/lang/invoke/VarHandle" ∧ (parseMethodDescriptor yX2_isValue.desc).map (fun d => d.parameters.length) = some 3 := by decide +kernel
theorem hd_X4_runv : yX4_run.cls = RX4 ∧ yX4_run.cls ≠ "java/lang/invoke/MethodHandle" ∧ yX4_run.cls ≠ "java/lang/invoke/VarHandle" ∧ (parseMethodDescriptor yX4_run.desc).map (fun d => d.parameters.length) = some 2 := by decide +kernel
theorem hd_X4_saysTruev : yX4_saysTrue.cls = RX4 ∧ yX4_saysTrue.cls ≠ "java/lang/invoke/MethodHandle" ∧ yX4_saysTrue.cls ≠ "java/lang/invoke/VarHandle" ∧ (parseMethodDescriptor yX4_saysTrue.desc).map (fun d => d.parameters.length) = some 0 := by decide +kernel
theorem hd_X5_takeFromv : yX5_takeFrom.cls = RX5 ∧ yX5_takeFrom.cls ≠ "java/lang/invoke/MethodHandle" ∧ yX5_takeFrom.cls ≠ "java/lang/invoke/VarHandle" ∧ (parseMethodDescriptor yX5_takeFrom.desc).map (fun d => d.parameters.length) = some 1 := by decide +kernel
theorem hd_X11_checkPromisesv : yX11_checkPromises.cls = RX11 ∧ yX11_checkPromises.cls ≠ "java/lang/invoke/MethodHandle" ∧ yX11_checkPromises.cls ≠ "java/lang/invoke/VarHandle" ∧ (parseMethodDescriptor yX11_checkPromises.desc).map (fun d => d.parameters.length) = some 1 := by decide +kernel
theorem hd_X10_staticFieldv : yX10_staticField.cls = RX10 ∧ yX10_staticField.cls ≠ "java/lang/invoke/MethodHandle" ∧ yX10_staticField.cls ≠ "java/lang/invoke/VarHandle" ∧ (parseMethodDescriptor yX10_staticField.desc).map (fun d => d.parameters.length) = some 2 := by decide +kernel
theorem hd_X3_forgetUndov : yX3_forgetUndo.cls = RX3 ∧ yX3_forgetUndo.cls ≠ "java/lang/invoke/MethodHandle" ∧ yX3_forgetUndo.cls ≠ "java/lang/invoke/VarHandle" ∧ (parseMethodDescriptor yX3_forgetUndo.desc).map (fun d => d.parameters.length) = some 0 := by decide +kernel
theorem hd_X2_dropUnreachedv : yX2_dropUnreached.cls = RX2 ∧ yX2_dropUnreached.cls ≠ "java/lang/invoke/MethodHandle" ∧ yX2_dropUnreached.cls ≠ "java/lang/invoke/VarHandle" ∧ (parseMethodDescriptor yX2_dropUnreached.desc).map (fun d => d.parameters.length) = some 0 := by decide +kernel
theorem hd_X3_takeBackv : yX3_takeBack.cls = RX3 ∧ yX3_takeBack.cls ≠ "java/lang/invoke/MethodHandle" ∧ yX3_takeBack.cls ≠ "java/lang/invoke/VarHandle" ∧ (parseMethodDescriptor yX3_takeBack.desc).map (fun d => d.parameters.length) = some 1 := by decide +kernel
theorem hd_X2_canSwapv : yX2_canSwap.cls = RX2 ∧ yX2_canSwap.cls ≠ "java/lang/invoke/MethodHandle" ∧ yX2_canSwap.cls ≠ "java/lang/invoke/VarHandle" ∧ (parseMethodDescriptor yX2_canSwap.desc).map (fun d => d.parameters.length) = some 2 := by decide +kernel
theorem hd_X3_swapSlotsv : yX3_swapSlots.cls = RX3 ∧ yX3_swapSlots.cls ≠ "java/lang/invoke/MethodHandle" ∧ yX3_swapSlots.cls ≠ "java/lang/invoke/VarHandle" ∧ (parseMethodDescriptor yX3_swapSlots.desc).map (fun d => d.parameters.length) = some 3 := by decide +kernel
theorem hd_X3_swapStaticsv : yX3_swapStatics.cls = RX3 ∧ yX3_swapStatics.cls ≠ "java/lang/invoke/MethodHandle" ∧ yX3_swapStatics.cls ≠ "java/lang/invoke/VarHandle" ∧ (parseMethodDescriptor yX3_swapStatics.desc).map (fun d => d.parameters.length) = some 3 := by decide +kernel
theorem hd_X2_swapRootsv : yX2_swapRoots.cls = RX2 ∧ yX2_swapRoots.cls ≠ "java/lang/invoke/MethodHandle" ∧ yX2_swapRoots.cls ≠ "java/lang/invoke/VarHandle" ∧ (parseMethodDescriptor yX2_swapRoots.desc).map (fun d => d.parameters.length) = some 2 := by decide +kernel
theorem hd_X2_duplicatev : yX2_duplicate.cls = RX2 ∧ yX2_duplicate.cls ≠ "java/lang/invoke/MethodHandle" ∧ yX2_duplicate.cls ≠ "java/lang/invoke/VarHandle" ∧ (parseMethodDescriptor yX2_duplicate.desc).map (fun d => d.parameters.length) = some 2 := by decide +kernel
theorem hd_X3_addWatchv : yX3_addWatch.cls = RX3 ∧ yX3_addWatch.cls ≠ "java/lang/invoke/MethodHandle" ∧ yX3_addWatch.cls ≠ "java/lang/invoke/VarHandle" ∧ (parseMethodDescriptor yX3_addWatch.desc).map (fun d => d.parameters.length) = some 3 := by decide +kernel
theorem hd_X11_rowsv : yX11_rows.cls = RX11 ∧ yX11_rows.cls ≠ "java/lang/invoke/MethodHandle" ∧ yX11_rows.cls ≠ "java/lang/invoke/VarHandle" ∧ (parseMethodDescriptor yX11_rows.desc).map (fun d => d.parameters.length) = some 1 := by decide +kernel
theorem hd_X3_rowPartv : yX3_rowPart.cls = RX3 ∧ yX3_rowPart.cls ≠ "java/lang/invoke/MethodHandle" ∧ yX3_rowPart.cls ≠ "java/lang/invoke/VarHandle" ∧ (parseMethodDescriptor yX3_rowPart.desc).map (fun d => d.parameters.length) = some 3 := by decide +kernel
theorem hd_X6_readPromisev : yX6_readPromise.cls = RX6 ∧ yX6_readPromise.cls ≠ "java/lang/invoke/MethodHandle" ∧ yX6_readPromise.cls ≠ "java/lang/invoke/VarHandle" ∧ (parseMethodDescriptor yX6_readPromise.desc).map (fun d => d.parameters.length) = some 0 := by decide +kernel
theorem hd_X11_tellFaultv : yX11_tellFault.cls = RX11 ∧ yX11_tellFault.cls ≠ "java/lang/invoke/MethodHandle" ∧ yX11_tellFault.cls ≠ "java/lang/invoke/VarHandle" ∧ (parseMethodDescriptor yX11_tellFault.desc).map (fun d => d.parameters.length) = some 2 := by decide +kernel
theorem hd_X11_isPicture : yX11_isPicture.cls ≠ "java/lang/invoke/MethodHandle" ∧ yX11_isPicture.cls ≠ "java/lang/invoke/VarHandle" ∧ (parseMethodDescriptor yX11_isPicture.desc).map (fun d => d.parameters.length) = some 1 := by decide +kernel
theorem hd_X11_needPicture : yX11_needPicture.cls ≠ "java/lang/invoke/MethodHandle" ∧ yX11_needPicture.cls ≠ "java/lang/invoke/VarHandle" ∧ (parseMethodDescriptor yX11_needPicture.desc).map (fun d => d.parameters.length) = some 1 := by decide +kernel
theorem hd_X11_isThingv : yX11_isThing.cls = RX11 ∧ yX11_isThing.cls ≠ "java/lang/invoke/MethodHandle" ∧ yX11_isThing.cls ≠ "java/lang/invoke/VarHandle" ∧ (parseMethodDescriptor yX11_isThing.desc).map (fun d => d.parameters.length) = some 2 := by decide +kernel
theorem hd_X5_holdersOfv : yX5_holdersOf.cls = RX5 ∧ yX5_holdersOf.cls ≠ "java/lang/invoke/MethodHandle" ∧ yX5_holdersOf.cls ≠ "java/lang/invoke/VarHandle" ∧ (parseMethodDescriptor yX5_holdersOf.desc).map (fun d => d.parameters.length) = some 1 := by decide +kernel
theorem hd_X5_dominatorOfv : yX5_dominatorOf.cls = RX5 ∧ yX5_dominatorOf.cls ≠ "java/lang/invoke/MethodHandle" ∧ yX5_dominatorOf.cls ≠ "java/lang/invoke/VarHandle" ∧ (parseMethodDescriptor yX5_dominatorOf.desc).map (fun d => d.parameters.length) = some 1 := by decide +kernel
theorem hd_X5_keptByv : yX5_keptBy.cls = RX5 ∧ yX5_keptBy.cls ≠ "java/lang/invoke/MethodHandle" ∧ yX5_keptBy.cls ≠ "java/lang/invoke/VarHandle" ∧ (parseMethodDescriptor yX5_keptBy.desc).map (fun d => d.parameters.length) = some 1 := by decide +kernel
theorem hd_X5_dominatedByv : yX5_dominatedBy.cls = RX5 ∧ yX5_dominatedBy.cls ≠ "java/lang/invoke/MethodHandle" ∧ yX5_dominatedBy.cls ≠ "java/lang/invoke/VarHandle" ∧ (parseMethodDescriptor yX5_dominatedBy.desc).map (fun d => d.parameters.length) = some 1 := by decide +kernel
theorem hd_X5_ringOfv : yX5_ringOf.cls = RX5 ∧ yX5_ringOf.cls ≠ "java/lang/invoke/MethodHandle" ∧ yX5_ringOf.cls ≠ "java/lang/invoke/VarHandle" ∧ (parseMethodDescriptor yX5_ringOf.desc).map (fun d => d.parameters.length) = some 1 := by decide +kernel
theorem hd_X5_twinOfv : yX5_twinOf.cls = RX5 ∧ yX5_twinOf.cls ≠ "java/lang/invoke/MethodHandle" ∧ yX5_twinOf.cls ≠ "java/lang/invoke/VarHandle" ∧ (parseMethodDescriptor yX5_twinOf.desc).map (fun d => d.parameters.length) = some 1 := by decide +kernel
theorem hd_X5_ringCountv : yX5_ringCount.cls = RX5 ∧ yX5_ringCount.cls ≠ "java/lang/invoke/MethodHandle" ∧ yX5_ringCount.cls ≠ "java/lang/invoke/VarHandle" ∧ (parseMethodDescriptor yX5_ringCount.desc).map (fun d => d.parameters.length) = some 0 := by decide +kernel
theorem hd_X5_twinCountv : yX5_twinCount.cls = RX5 ∧ yX5_twinCount.cls ≠ "java/lang/invoke/MethodHandle" ∧ yX5_twinCount.cls ≠ "java/lang/invoke/VarHandle" ∧ (parseMethodDescriptor yX5_twinCount.desc).map (fun d => d.parameters.length) = some 0 := by decide +kernel
theorem hd_X5_allSizesv : yX5_allSizes.cls = RX5 ∧ yX5_allSizes.cls ≠ "java/lang/invoke/MethodHandle" ∧ yX5_allSizes.cls ≠ "java/lang/invoke/VarHandle" ∧ (parseMethodDescriptor yX5_allSizes.desc).map (fun d => d.parameters.length) = some 1 := by decide +kernel
theorem hd_X5_doubledSizesv : yX5_doubledSizes.cls = RX5 ∧ yX5_doubledSizes.cls ≠ "java/lang/invoke/MethodHandle" ∧ yX5_doubledSizes.cls ≠ "java/lang/invoke/VarHandle" ∧ (parseMethodDescriptor yX5_doubledSizes.desc).map (fun d => d.parameters.length) = some 1 := by decide +kernel
theorem hd_X5_countOfv : yX5_countOf.cls = RX5 ∧ yX5_countOf.cls ≠ "java/lang/invoke/MethodHandle" ∧ yX5_countOf.cls ≠ "java/lang/invoke/VarHandle" ∧ (parseMethodDescriptor yX5_countOf.desc).map (fun d => d.parameters.length) = some 1 := by decide +kernel
theorem hd_X5_countHeirsv : yX5_countHeirs.cls = RX5 ∧ yX5_countHeirs.cls ≠ "java/lang/invoke/MethodHandle" ∧ yX5_countHeirs.cls ≠ "java/lang/invoke/VarHandle" ∧ (parseMethodDescriptor yX5_countHeirs.desc).map (fun d => d.parameters.length) = some 2 := by decide +kernel
theorem hd_X5_twinMemberv : yX5_twinMember.cls = RX5 ∧ yX5_twinMember.cls ≠ "java/lang/invoke/MethodHandle" ∧ yX5_twinMember.cls ≠ "java/lang/invoke/VarHandle" ∧ (parseMethodDescriptor yX5_twinMember.desc).map (fun d => d.parameters.length) = some 2 := by decide +kernel
theorem hd_X5_ringMemberv : yX5_ringMember.cls = RX5 ∧ yX5_ringMember.cls ≠ "java/lang/invoke/MethodHandle" ∧ yX5_ringMember.cls ≠ "java/lang/invoke/VarHandle" ∧ (parseMethodDescriptor yX5_ringMember.desc).map (fun d => d.parameters.length) = some 2 := by decide +kernel
theorem hd_X5_findLostv : yX5_findLost.cls = RX5 ∧ yX5_findLost.cls ≠ "java/lang/invoke/MethodHandle" ∧ yX5_findLost.cls ≠ "java/lang/invoke/VarHandle" ∧ (parseMethodDescriptor yX5_findLost.desc).map (fun d => d.parameters.length) = some 0 := by decide +kernel
theorem hd_X5_listChangedv : yX5_listChanged.cls = RX5 ∧ yX5_listChanged.cls ≠ "java/lang/invoke/MethodHandle" ∧ yX5_listChanged.cls ≠ "java/lang/invoke/VarHandle" ∧ (parseMethodDescriptor yX5_listChanged.desc).map (fun d => d.parameters.length) = some 2 := by decide +kernel
theorem hd_X5_listMissingv : yX5_listMissing.cls = RX5 ∧ yX5_listMissing.cls ≠ "java/lang/invoke/MethodHandle" ∧ yX5_listMissing.cls ≠ "java/lang/invoke/VarHandle" ∧ (parseMethodDescriptor yX5_listMissing.desc).map (fun d => d.parameters.length) = some 2 := by decide +kernel
theorem hd_X5_isLikev : yX5_isLike.cls = RX5 ∧ yX5_isLike.cls ≠ "java/lang/invoke/MethodHandle" ∧ yX5_isLike.cls ≠ "java/lang/invoke/VarHandle" ∧ (parseMethodDescriptor yX5_isLike.desc).map (fun d => d.parameters.length) = some 3 := by decide +kernel
theorem hd_X6_readQuestionv : yX6_readQuestion.cls = RX6 ∧ yX6_readQuestion.cls ≠ "java/lang/invoke/MethodHandle" ∧ yX6_readQuestion.cls ≠ "java/lang/invoke/VarHandle" ∧ (parseMethodDescriptor yX6_readQuestion.desc).map (fun d => d.parameters.length) = some 0 := by decide +kernel
theorem hd_X7_readAllv : yX7_readAll.cls = RX7 ∧ yX7_readAll.cls ≠ "java/lang/invoke/MethodHandle" ∧ yX7_readAll.cls ≠ "java/lang/invoke/VarHandle" ∧ (parseMethodDescriptor yX7_readAll.desc).map (fun d => d.parameters.length) = some 0 := by decide +kernel
theorem hd_X1_workOutv : yX1_workOut.cls = RX1 ∧ yX1_workOut.cls ≠ "java/lang/invoke/MethodHandle" ∧ yX1_workOut.cls ≠ "java/lang/invoke/VarHandle" ∧ (parseMethodDescriptor yX1_workOut.desc).map (fun d => d.parameters.length) = some 2 := by decide +kernel
theorem hd_X1_countOfv : yX1_countOf.cls = RX1 ∧ yX1_countOf.cls ≠ "java/lang/invoke/MethodHandle" ∧ yX1_countOf.cls ≠ "java/lang/invoke/VarHandle" ∧ (parseMethodDescriptor yX1_countOf.desc).map (fun d => d.parameters.length) = some 1 := by decide +kernel
theorem hd_X1_hasv : yX1_has.cls = RX1 ∧ yX1_has.cls ≠ "java/lang/invoke/MethodHandle" ∧ yX1_has.cls ≠ "java/lang/invoke/VarHandle" ∧ (parseMethodDescriptor yX1_has.desc).map (fun d => d.parameters.length) = some 3 := by decide +kernel
theorem hd_X0_encodev : yX0_encode.cls = RX0 ∧ yX0_encode.cls ≠ "java/lang/invoke/MethodHandle" ∧ yX0_encode.cls ≠ "java/lang/invoke/VarHandle" ∧ (parseMethodDescriptor yX0_encode.desc).map (fun d => d.parameters.length) = some 1 := by decide +kernel
theorem hd_X11_exchangev : yX11_exchange.cls = RX11 ∧ yX11_exchange.cls ≠ "java/lang/invoke/MethodHandle" ∧ yX11_exchange.cls ≠ "java/lang/invoke/VarHandle" ∧ (parseMethodDescriptor yX11_exchange.desc).map (fun d => d.parameters.length) = some 1 := by decide +kernel
theorem hd_X0_appendv : yX0_append.cls = RX0 ∧ yX0_append.cls ≠ "java/lang/invoke/MethodHandle" ∧ yX0_append.cls ≠ "java/lang/invoke/VarHandle" ∧ (parseMethodDescriptor yX0_append.desc).map (fun d => d.parameters.length) = some 1 := by decide +kernel
theorem hd_X0_reopenAtv : yX0_reopenAt.cls = RX0 ∧ yX0_reopenAt.cls ≠ "java/lang/invoke/MethodHandle" ∧ yX0_reopenAt.cls ≠ "java/lang/invoke/VarHandle" ∧ (parseMethodDescriptor yX0_reopenAt.desc).map (fun d => d.parameters.length) = some 2 := by decide +kernel
theorem hd_X0_readRecordv : yX0_readRecord.cls = RX0 ∧ yX0_readRecord.cls ≠ "java/lang/invoke/MethodHandle" ∧ yX0_readRecord.cls ≠ "java/lang/invoke/VarHandle" ∧ (parseMethodDescriptor yX0_readRecord.desc).map (fun d => d.parameters.length) = some 2 := by decide +kernel
theorem hd_X12_isDigit : yX12_isDigit.cls ≠ "java/lang/invoke/MethodHandle" ∧ yX12_isDigit.cls ≠ "java/lang/invoke/VarHandle" ∧ (parseMethodDescriptor yX12_isDigit.desc).map (fun d => d.parameters.length) = some 1 := by decide +kernel
theorem hd_X12_code : yX12_code.cls ≠ "java/lang/invoke/MethodHandle" ∧ yX12_code.cls ≠ "java/lang/invoke/VarHandle" ∧ (parseMethodDescriptor yX12_code.desc).map (fun d => d.parameters.length) = some 1 := by decide +kernel
theorem hd_X12_keyOfv : yX12_keyOf.cls = RX12 ∧ yX12_keyOf.cls ≠ "java/lang/invoke/MethodHandle" ∧ yX12_keyOf.cls ≠ "java/lang/invoke/VarHandle" ∧ (parseMethodDescriptor yX12_keyOf.desc).map (fun d => d.parameters.length) = some 1 := by decide +kernel
theorem hd_X12_isLetter : yX12_isLetter.cls ≠ "java/lang/invoke/MethodHandle" ∧ yX12_isLetter.cls ≠ "java/lang/invoke/VarHandle" ∧ (parseMethodDescriptor yX12_isLetter.desc).map (fun d => d.parameters.length) = some 1 := by decide +kernel
theorem hd_X12_tapeNamev : yX12_tapeName.cls = RX12 ∧ yX12_tapeName.cls ≠ "java/lang/invoke/MethodHandle" ∧ yX12_tapeName.cls ≠ "java/lang/invoke/VarHandle" ∧ (parseMethodDescriptor yX12_tapeName.desc).map (fun d => d.parameters.length) = some 0 := by decide +kernel
theorem hd_X12_width : yX12_width.cls ≠ "java/lang/invoke/MethodHandle" ∧ yX12_width.cls ≠ "java/lang/invoke/VarHandle" ∧ (parseMethodDescriptor yX12_width.desc).map (fun d => d.parameters.length) = some 1 := by decide +kernel
theorem hd_X12_layOutv : yX12_layOut.cls = RX12 ∧ yX12_layOut.cls ≠ "java/lang/invoke/MethodHandle" ∧ yX12_layOut.cls ≠ "java/lang/invoke/VarHandle" ∧ (parseMethodDescriptor yX12_layOut.desc).map (fun d => d.parameters.length) = some 1 := by decide +kernel
theorem hd_X12_isClassv : yX12_isClass.cls = RX12 ∧ yX12_isClass.cls ≠ "java/lang/invoke/MethodHandle" ∧ yX12_isClass.cls ≠ "java/lang/invoke/VarHandle" ∧ (parseMethodDescriptor yX12_isClass.desc).map (fun d => d.parameters.length) = some 1 := by decide +kernel
theorem hd_X12_isLinkTypev : yX12_isLinkType.cls = RX12 ∧ yX12_isLinkType.cls ≠ "java/lang/invoke/MethodHandle" ∧ yX12_isLinkType.cls ≠ "java/lang/invoke/VarHandle" ∧ (parseMethodDescriptor yX12_isLinkType.desc).map (fun d => d.parameters.length) = some 1 := by decide +kernel
theorem hd_X12_sizeOfv : yX12_sizeOf.cls = RX12 ∧ yX12_sizeOf.cls ≠ "java/lang/invoke/MethodHandle" ∧ yX12_sizeOf.cls ≠ "java/lang/invoke/VarHandle" ∧ (parseMethodDescriptor yX12_sizeOf.desc).map (fun d => d.parameters.length) = some 1 := by decide +kernel
theorem hd_X12_fieldOfv : yX12_fieldOf.cls = RX12 ∧ yX12_fieldOf.cls ≠ "java/lang/invoke/MethodHandle" ∧ yX12_fieldOf.cls ≠ "java/lang/invoke/VarHandle" ∧ (parseMethodDescriptor yX12_fieldOf.desc).map (fun d => d.parameters.length) = some 2 := by decide +kernel
theorem hd_X12_isv : yX12_is.cls = RX12 ∧ yX12_is.cls ≠ "java/lang/invoke/MethodHandle" ∧ yX12_is.cls ≠ "java/lang/invoke/VarHandle" ∧ (parseMethodDescriptor yX12_is.desc).map (fun d => d.parameters.length) = some 2 := by decide +kernel
theorem hd_X12_fitsv : yX12_fits.cls = RX12 ∧ yX12_fits.cls ≠ "java/lang/invoke/MethodHandle" ∧ yX12_fits.cls ≠ "java/lang/invoke/VarHandle" ∧ (parseMethodDescriptor yX12_fits.desc).map (fun d => d.parameters.length) = some 2 := by decide +kernel
theorem hd_X12_slotCountv : yX12_slotCount.cls = RX12 ∧ yX12_slotCount.cls ≠ "java/lang/invoke/MethodHandle" ∧ yX12_slotCount.cls ≠ "java/lang/invoke/VarHandle" ∧ (parseMethodDescriptor yX12_slotCount.desc).map (fun d => d.parameters.length) = some 2 := by decide +kernel
theorem hd_X12_kindOfv : yX12_kindOf.cls = RX12 ∧ yX12_kindOf.cls ≠ "java/lang/invoke/MethodHandle" ∧ yX12_kindOf.cls ≠ "java/lang/invoke/VarHandle" ∧ (parseMethodDescriptor yX12_kindOf.desc).map (fun d => d.parameters.length) = some 2 := by decide +kernel
theorem hd_X12_addv : yX12_add.cls = RX12 ∧ yX12_add.cls ≠ "java/lang/invoke/MethodHandle" ∧ yX12_add.cls ≠ "java/lang/invoke/VarHandle" ∧ (parseMethodDescriptor yX12_add.desc).map (fun d => d.parameters.length) = some 2 := by decide +kernel
theorem hd_X12_isArrayTypev : yX12_isArrayType.cls = RX12 ∧ yX12_isArrayType.cls ≠ "java/lang/invoke/MethodHandle" ∧ yX12_isArrayType.cls ≠ "java/lang/invoke/VarHandle" ∧ (parseMethodDescriptor yX12_isArrayType.desc).map (fun d => d.parameters.length) = some 1 := by decide +kernel
theorem hd_X12_isObjectv : yX12_isObject.cls = RX12 ∧ yX12_isObject.cls ≠ "java/lang/invoke/MethodHandle" ∧ yX12_isObject.cls ≠ "java/lang/invoke/VarHandle" ∧ (parseMethodDescriptor yX12_isObject.desc).map (fun d => d.parameters.length) = some 1 := by decide +kernel
theorem hd_X12_rootAtv : yX12_rootAt.cls = RX12 ∧ yX12_rootAt.cls ≠ "java/lang/invoke/MethodHandle" ∧ yX12_rootAt.cls ≠ "java/lang/invoke/VarHandle" ∧ (parseMethodDescriptor yX12_rootAt.desc).map (fun d => d.parameters.length) = some 1 := by decide +kernel
theorem hd_X12_lookv : yX12_look.cls = RX12 ∧ yX12_look.cls ≠ "java/lang/invoke/MethodHandle" ∧ yX12_look.cls ≠ "java/lang/invoke/VarHandle" ∧ (parseMethodDescriptor yX12_look.desc).map (fun d => d.parameters.length) = some 4 := by decide +kernel
theorem hd_X12_isOfKindv : yX12_isOfKind.cls = RX12 ∧ yX12_isOfKind.cls ≠ "java/lang/invoke/MethodHandle" ∧ yX12_isOfKind.cls ≠ "java/lang/invoke/VarHandle" ∧ (parseMethodDescriptor yX12_isOfKind.desc).map (fun d => d.parameters.length) = some 3 := by decide +kernel
theorem hd_X12_writev : yX12_write.cls = RX12 ∧ yX12_write.cls ≠ "java/lang/invoke/MethodHandle" ∧ yX12_write.cls ≠ "java/lang/invoke/VarHandle" ∧ (parseMethodDescriptor yX12_write.desc).map (fun d => d.parameters.length) = some 3 := by decide +kernel
theorem hd_X12_beginWalkv : yX12_beginWalk.cls = RX12 ∧ yX12_beginWalk.cls ≠ "java/lang/invoke/MethodHandle" ∧ yX12_beginWalk.cls ≠ "java/lang/invoke/VarHandle" ∧ (parseMethodDescriptor yX12_beginWalk.desc).map (fun d => d.parameters.length) = some 0 := by decide +kernel
theorem hd_X12_isLinkSlotv : yX12_isLinkSlot.cls = RX12 ∧ yX12_isLinkSlot.cls ≠ "java/lang/invoke/MethodHandle" ∧ yX12_isLinkSlot.cls ≠ "java/lang/invoke/VarHandle" ∧ (parseMethodDescriptor yX12_isLinkSlot.desc).map (fun d => d.parameters.length) = some 2 := by decide +kernel
theorem hd_X12_meetv : yX12_meet.cls = RX12 ∧ yX12_meet.cls ≠ "java/lang/invoke/MethodHandle" ∧ yX12_meet.cls ≠ "java/lang/invoke/VarHandle" ∧ (parseMethodDescriptor yX12_meet.desc).map (fun d => d.parameters.length) = some 1 := by decide +kernel
theorem hd_X12_isApartv : yX12_isApart.cls = RX12 ∧ yX12_isApart.cls ≠ "java/lang/invoke/MethodHandle" ∧ yX12_isApart.cls ≠ "java/lang/invoke/VarHandle" ∧ (parseMethodDescriptor yX12_isApart.desc).map (fun d => d.parameters.length) = some 1 := by decide +kernel
theorem hd_X12_meetSlotsv : yX12_meetSlots.cls = RX12 ∧ yX12_meetSlots.cls ≠ "java/lang/invoke/MethodHandle" ∧ yX12_meetSlots.cls ≠ "java/lang/invoke/VarHandle" ∧ (parseMethodDescriptor yX12_meetSlots.desc).map (fun d => d.parameters.length) = some 2 := by decide +kernel
theorem hd_X12_isLinkStaticv : yX12_isLinkStatic.cls = RX12 ∧ yX12_isLinkStatic.cls ≠ "java/lang/invoke/MethodHandle" ∧ yX12_isLinkStatic.cls ≠ "java/lang/invoke/VarHandle" ∧ (parseMethodDescriptor yX12_isLinkStatic.desc).map (fun d => d.parameters.length) = some 1 := by decide +kernel
theorem hd_X12_walkRootsv : yX12_walkRoots.cls = RX12 ∧ yX12_walkRoots.cls ≠ "java/lang/invoke/MethodHandle" ∧ yX12_walkRoots.cls ≠ "java/lang/invoke/VarHandle" ∧ (parseMethodDescriptor yX12_walkRoots.desc).map (fun d => d.parameters.length) = some 0 := by decide +kernel
theorem hd_X12_atv : yX12_at.cls = RX12 ∧ yX12_at.cls ≠ "java/lang/invoke/MethodHandle" ∧ yX12_at.cls ≠ "java/lang/invoke/VarHandle" ∧ (parseMethodDescriptor yX12_at.desc).map (fun d => d.parameters.length) = some 2 := by decide +kernel
theorem hd_X12_addRootv : yX12_addRoot.cls = RX12 ∧ yX12_addRoot.cls ≠ "java/lang/invoke/MethodHandle" ∧ yX12_addRoot.cls ≠ "java/lang/invoke/VarHandle" ∧ (parseMethodDescriptor yX12_addRoot.desc).map (fun d => d.parameters.length) = some 3 := by decide +kernel
theorem hd_X12_picture0v : yX12_picture0.cls = RX12 ∧ yX12_picture0.cls ≠ "java/lang/invoke/MethodHandle" ∧ yX12_picture0.cls ≠ "java/lang/invoke/VarHandle" ∧ (parseMethodDescriptor yX12_picture0.desc).map (fun d => d.parameters.length) = some 1 := by decide +kernel
theorem hd_X12_slotsInv : yX12_slotsIn.cls = RX12 ∧ yX12_slotsIn.cls ≠ "java/lang/invoke/MethodHandle" ∧ yX12_slotsIn.cls ≠ "java/lang/invoke/VarHandle" ∧ (parseMethodDescriptor yX12_slotsIn.desc).map (fun d => d.parameters.length) = some 2 := by decide +kernel
theorem hd_X12_linksInv : yX12_linksIn.cls = RX12 ∧ yX12_linksIn.cls ≠ "java/lang/invoke/MethodHandle" ∧ yX12_linksIn.cls ≠ "java/lang/invoke/VarHandle" ∧ (parseMethodDescriptor yX12_linksIn.desc).map (fun d => d.parameters.length) = some 3 := by decide +kernel
theorem hd_X12_valueInv : yX12_valueIn.cls = RX12 ∧ yX12_valueIn.cls ≠ "java/lang/invoke/MethodHandle" ∧ yX12_valueIn.cls ≠ "java/lang/invoke/VarHandle" ∧ (parseMethodDescriptor yX12_valueIn.desc).map (fun d => d.parameters.length) = some 3 := by decide +kernel
theorem hd_X12_findWaysv : yX12_findWays.cls = RX12 ∧ yX12_findWays.cls ≠ "java/lang/invoke/MethodHandle" ∧ yX12_findWays.cls ≠ "java/lang/invoke/VarHandle" ∧ (parseMethodDescriptor yX12_findWays.desc).map (fun d => d.parameters.length) = some 1 := by decide +kernel
theorem hd_X12_visitv : yX12_visit.cls = RX12 ∧ yX12_visit.cls ≠ "java/lang/invoke/MethodHandle" ∧ yX12_visit.cls ≠ "java/lang/invoke/VarHandle" ∧ (parseMethodDescriptor yX12_visit.desc).map (fun d => d.parameters.length) = some 4 := by decide +kernel
theorem hd_X12_visitSlotsv : yX12_visitSlots.cls = RX12 ∧ yX12_visitSlots.cls ≠ "java/lang/invoke/MethodHandle" ∧ yX12_visitSlots.cls ≠ "java/lang/invoke/VarHandle" ∧ (parseMethodDescriptor yX12_visitSlots.desc).map (fun d => d.parameters.length) = some 4 := by decide +kernel
theorem hd_X12_reachv : yX12_reach.cls = RX12 ∧ yX12_reach.cls ≠ "java/lang/invoke/MethodHandle" ∧ yX12_reach.cls ≠ "java/lang/invoke/VarHandle" ∧ (parseMethodDescriptor yX12_reach.desc).map (fun d => d.parameters.length) = some 4 := by decide +kernel
theorem hd_X12_objectSizev : yX12_objectSize.cls = RX12 ∧ yX12_objectSize.cls ≠ "java/lang/invoke/MethodHandle" ∧ yX12_objectSize.cls ≠ "java/lang/invoke/VarHandle" ∧ (parseMethodDescriptor yX12_objectSize.desc).map (fun d => d.parameters.length) = some 2 := by decide +kernel
theorem hd_X12_sizeInv : yX12_sizeIn.cls = RX12 ∧ yX12_sizeIn.cls ≠ "java/lang/invoke/MethodHandle" ∧ yX12_sizeIn.cls ≠ "java/lang/invoke/VarHandle" ∧ (parseMethodDescriptor yX12_sizeIn.desc).map (fun d => d.parameters.length) = some 2 := by decide +kernel
theorem hd_X12_findDominatorsv : yX12_findDominators.cls = RX12 ∧ yX12_findDominators.cls ≠ "java/lang/invoke/MethodHandle" ∧ yX12_findDominators.cls ≠ "java/lang/invoke/VarHandle" ∧ (parseMethodDescriptor yX12_findDominators.desc).map (fun d => d.parameters.length) = some 1 := by decide +kernel
theorem hd_X12_takeNowv : yX12_takeNow.cls = RX12 ∧ yX12_takeNow.cls ≠ "java/lang/invoke/MethodHandle" ∧ yX12_takeNow.cls ≠ "java/lang/invoke/VarHandle" ∧ (parseMethodDescriptor yX12_takeNow.desc).map (fun d => d.parameters.length) = some 0 := by decide +kernel
theorem hd_X12_beginWorkv : yX12_beginWork.cls = RX12 ∧ yX12_beginWork.cls ≠ "java/lang/invoke/MethodHandle" ∧ yX12_beginWork.cls ≠ "java/lang/invoke/VarHandle" ∧ (parseMethodDescriptor yX12_beginWork.desc).map (fun d => d.parameters.length) = some 1 := by decide +kernel
theorem hd_X12_workBothv : yX12_workBoth.cls = RX12 ∧ yX12_workBoth.cls ≠ "java/lang/invoke/MethodHandle" ∧ yX12_workBoth.cls ≠ "java/lang/invoke/VarHandle" ∧ (parseMethodDescriptor yX12_workBoth.desc).map (fun d => d.parameters.length) = some 2 := by decide +kernel
theorem hd_X12_givev : yX12_give.cls = RX12 ∧ yX12_give.cls ≠ "java/lang/invoke/MethodHandle" ∧ yX12_give.cls ≠ "java/lang/invoke/VarHandle" ∧ (parseMethodDescriptor yX12_give.desc).map (fun d => d.parameters.length) = some 2 := by decide +kernel
theorem hd_X12_truthv : yX12_truth.cls = RX12 ∧ yX12_truth.cls ≠ "java/lang/invoke/MethodHandle" ∧ yX12_truth.cls ≠ "java/lang/invoke/VarHandle" ∧ (parseMethodDescriptor yX12_truth.desc).map (fun d => d.parameters.length) = some 1 := by decide +kernel
theorem hd_X12_workOnev : yX12_workOne.cls = RX12 ∧ yX12_workOne.cls ≠ "java/lang/invoke/MethodHandle" ∧ yX12_workOne.cls ≠ "java/lang/invoke/VarHandle" ∧ (parseMethodDescriptor yX12_workOne.desc).map (fun d => d.parameters.length) = some 1 := by decide +kernel
theorem hd_X12_nothingv : yX12_nothing.cls = RX12 ∧ yX12_nothing.cls ≠ "java/lang/invoke/MethodHandle" ∧ yX12_nothing.cls ≠ "java/lang/invoke/VarHandle" ∧ (parseMethodDescriptor yX12_nothing.desc).map (fun d => d.parameters.length) = some 0 := by decide +kernel
theorem hd_X12_workNumberedv : yX12_workNumbered.cls = RX12 ∧ yX12_workNumbered.cls ≠ "java/lang/invoke/MethodHandle" ∧ yX12_workNumbered.cls ≠ "java/lang/invoke/VarHandle" ∧ (parseMethodDescriptor yX12_workNumbered.desc).map (fun d => d.parameters.length) = some 1 := by decide +kernel
theorem hd_X12_workPartv : yX12_workPart.cls = RX12 ∧ yX12_workPart.cls ≠ "java/lang/invoke/MethodHandle" ∧ yX12_workPart.cls ≠ "java/lang/invoke/VarHandle" ∧ (parseMethodDescriptor yX12_workPart.desc).map (fun d => d.parameters.length) = some 1 := by decide +kernel
theorem hd_X12_workTwov : yX12_workTwo.cls = RX12 ∧ yX12_workTwo.cls ≠ "java/lang/invoke/MethodHandle" ∧ yX12_workTwo.cls ≠ "java/lang/invoke/VarHandle" ∧ (parseMethodDescriptor yX12_workTwo.desc).map (fun d => d.parameters.length) = some 1 := by decide +kernel
theorem hd_X12_workFoldv : yX12_workFold.cls = RX12 ∧ yX12_workFold.cls ≠ "java/lang/invoke/MethodHandle" ∧ yX12_workFold.cls ≠ "java/lang/invoke/VarHandle" ∧ (parseMethodDescriptor yX12_workFold.desc).map (fun d => d.parameters.length) = some 1 := by decide +kernel
theorem hd_X12_stepv : yX12_step.cls = RX12 ∧ yX12_step.cls ≠ "java/lang/invoke/MethodHandle" ∧ yX12_step.cls ≠ "java/lang/invoke/VarHandle" ∧ (parseMethodDescriptor yX12_step.desc).map (fun d => d.parameters.length) = some 0 := by decide +kernel
theorem hd_X12_workv : yX12_work.cls = RX12 ∧ yX12_work.cls ≠ "java/lang/invoke/MethodHandle" ∧ yX12_work.cls ≠ "java/lang/invoke/VarHandle" ∧ (parseMethodDescriptor yX12_work.desc).map (fun d => d.parameters.length) = some 1 := by decide +kernel
theorem hd_X12_linkv : yX12_link.cls = RX12 ∧ yX12_link.cls ≠ "java/lang/invoke/MethodHandle" ∧ yX12_link.cls ≠ "java/lang/invoke/VarHandle" ∧ (parseMethodDescriptor yX12_link.desc).map (fun d => d.parameters.length) = some 1 := by decide +kernel
theorem hd_X12_workFieldv : yX12_workField.cls = RX12 ∧ yX12_workField.cls ≠ "java/lang/invoke/MethodHandle" ∧ yX12_workField.cls ≠ "java/lang/invoke/VarHandle" ∧ (parseMethodDescriptor yX12_workField.desc).map (fun d => d.parameters.length) = some 3 := by decide +kernel
theorem hd_X12_isNamedv : yX12_isNamed.cls = RX12 ∧ yX12_isNamed.cls ≠ "java/lang/invoke/MethodHandle" ∧ yX12_isNamed.cls ≠ "java/lang/invoke/VarHandle" ∧ (parseMethodDescriptor yX12_isNamed.desc).map (fun d => d.parameters.length) = some 3 := by decide +kernel
theorem hd_X12_gatherv : yX12_gather.cls = RX12 ∧ yX12_gather.cls ≠ "java/lang/invoke/MethodHandle" ∧ yX12_gather.cls ≠ "java/lang/invoke/VarHandle" ∧ (parseMethodDescriptor yX12_gather.desc).map (fun d => d.parameters.length) = some 2 := by decide +kernel
theorem hd_X12_workSetv : yX12_workSet.cls = RX12 ∧ yX12_workSet.cls ≠ "java/lang/invoke/MethodHandle" ∧ yX12_workSet.cls ≠ "java/lang/invoke/VarHandle" ∧ (parseMethodDescriptor yX12_workSet.desc).map (fun d => d.parameters.length) = some 2 := by decide +kernel
theorem hd_X12_isTrueNowv : yX12_isTrueNow.cls = RX12 ∧ yX12_isTrueNow.cls ≠ "java/lang/invoke/MethodHandle" ∧ yX12_isTrueNow.cls ≠ "java/lang/invoke/VarHandle" ∧ (parseMethodDescriptor yX12_isTrueNow.desc).map (fun d => d.parameters.length) = some 1 := by decide +kernel
theorem hd_X12_lookAtPromisesv : yX12_lookAtPromises.cls = RX12 ∧ yX12_lookAtPromises.cls ≠ "java/lang/invoke/MethodHandle" ∧ yX12_lookAtPromises.cls ≠ "java/lang/invoke/VarHandle" ∧ (parseMethodDescriptor yX12_lookAtPromises.desc).map (fun d => d.parameters.length) = some 1 := by decide +kernel
theorem hd_X12_linkOfv : yX12_linkOf.cls = RX12 ∧ yX12_linkOf.cls ≠ "java/lang/invoke/MethodHandle" ∧ yX12_linkOf.cls ≠ "java/lang/invoke/VarHandle" ∧ (parseMethodDescriptor yX12_linkOf.desc).map (fun d => d.parameters.length) = some 2 := by decide +kernel
theorem hd_X12_staticOfv : yX12_staticOf.cls = RX12 ∧ yX12_staticOf.cls ≠ "java/lang/invoke/MethodHandle" ∧ yX12_staticOf.cls ≠ "java/lang/invoke/VarHandle" ∧ (parseMethodDescriptor yX12_staticOf.desc).map (fun d => d.parameters.length) = some 2 := by decide +kernel
theorem hd_X12_turned : yX12_turned.cls ≠ "java/lang/invoke/MethodHandle" ∧ yX12_turned.cls ≠ "java/lang/invoke/VarHandle" ∧ (parseMethodDescriptor yX12_turned.desc).map (fun d => d.parameters.length) = some 3 := by decide +kernel
theorem hd_X12_isPicturev : yX12_isPicture.cls = RX12 ∧ yX12_isPicture.cls ≠ "java/lang/invoke/MethodHandle" ∧ yX12_isPicture.cls ≠ "java/lang/invoke/VarHandle" ∧ (parseMethodDescriptor yX12_isPicture.desc).map (fun d => d.parameters.length) = some 1 := by decide +kernel
theorem hd_X12_findRingsv : yX12_findRings.cls = RX12 ∧ yX12_findRings.cls ≠ "java/lang/invoke/MethodHandle" ∧ yX12_findRings.cls ≠ "java/lang/invoke/VarHandle" ∧ (parseMethodDescriptor yX12_findRings.desc).map (fun d => d.parameters.length) = some 1 := by decide +kernel
theorem hd_X12_areDoublesv : yX12_areDoubles.cls = RX12 ∧ yX12_areDoubles.cls ≠ "java/lang/invoke/MethodHandle" ∧ yX12_areDoubles.cls ≠ "java/lang/invoke/VarHandle" ∧ (parseMethodDescriptor yX12_areDoubles.desc).map (fun d => d.parameters.length) = some 3 := by decide +kernel
theorem hd_X12_findGroupsv : yX12_findGroups.cls = RX12 ∧ yX12_findGroups.cls ≠ "java/lang/invoke/MethodHandle" ∧ yX12_findGroups.cls ≠ "java/lang/invoke/VarHandle" ∧ (parseMethodDescriptor yX12_findGroups.desc).map (fun d => d.parameters.length) = some 1 := by decide +kernel
theorem hd_X12_studyv : yX12_study.cls = RX12 ∧ yX12_study.cls ≠ "java/lang/invoke/MethodHandle" ∧ yX12_study.cls ≠ "java/lang/invoke/VarHandle" ∧ (parseMethodDescriptor yX12_study.desc).map (fun d => d.parameters.length) = some 1 := by decide +kernel
theorem hd_X12_isThingv : yX12_isThing.cls = RX12 ∧ yX12_isThing.cls ≠ "java/lang/invoke/MethodHandle" ∧ yX12_isThing.cls ≠ "java/lang/invoke/VarHandle" ∧ (parseMethodDescriptor yX12_isThing.desc).map (fun d => d.parameters.length) = some 2 := by decide +kernel
theorem hd_X12_holdersv : yX12_holders.cls = RX12 ∧ yX12_holders.cls ≠ "java/lang/invoke/MethodHandle" ∧ yX12_holders.cls ≠ "java/lang/invoke/VarHandle" ∧ (parseMethodDescriptor yX12_holders.desc).map (fun d => d.parameters.length) = some 2 := by decide +kernel
theorem hd_X12_firstOfGroupv : yX12_firstOfGroup.cls = RX12 ∧ yX12_firstOfGroup.cls ≠ "java/lang/invoke/MethodHandle" ∧ yX12_firstOfGroup.cls ≠ "java/lang/invoke/VarHandle" ∧ (parseMethodDescriptor yX12_firstOfGroup.desc).map (fun d => d.parameters.length) = some 2 := by decide +kernel
theorem hd_X12_shownv : yX12_shown.cls = RX12 ∧ yX12_shown.cls ≠ "java/lang/invoke/MethodHandle" ∧ yX12_shown.cls ≠ "java/lang/invoke/VarHandle" ∧ (parseMethodDescriptor yX12_shown.desc).map (fun d => d.parameters.length) = some 3 := by decide +kernel
theorem hd_X12_thingOfv : yX12_thingOf.cls = RX12 ∧ yX12_thingOf.cls ≠ "java/lang/invoke/MethodHandle" ∧ yX12_thingOf.cls ≠ "java/lang/invoke/VarHandle" ∧ (parseMethodDescriptor yX12_thingOf.desc).map (fun d => d.parameters.length) = some 2 := by decide +kernel
theorem hd_X12_isChangedv : yX12_isChanged.cls = RX12 ∧ yX12_isChanged.cls ≠ "java/lang/invoke/MethodHandle" ∧ yX12_isChanged.cls ≠ "java/lang/invoke/VarHandle" ∧ (parseMethodDescriptor yX12_isChanged.desc).map (fun d => d.parameters.length) = some 4 := by decide +kernel
theorem hd_X12_pairv : yX12_pair.cls = RX12 ∧ yX12_pair.cls ≠ "java/lang/invoke/MethodHandle" ∧ yX12_pair.cls ≠ "java/lang/invoke/VarHandle" ∧ (parseMethodDescriptor yX12_pair.desc).map (fun d => d.parameters.length) = some 2 := by decide +kernel
theorem hd_X12_byteAtv : yX12_byteAt.cls = RX12 ∧ yX12_byteAt.cls ≠ "java/lang/invoke/MethodHandle" ∧ yX12_byteAt.cls ≠ "java/lang/invoke/VarHandle" ∧ (parseMethodDescriptor yX12_byteAt.desc).map (fun d => d.parameters.length) = some 1 := by decide +kernel
theorem hd_X12_failv : yX12_fail.cls = RX12 ∧ yX12_fail.cls ≠ "java/lang/invoke/MethodHandle" ∧ yX12_fail.cls ≠ "java/lang/invoke/VarHandle" ∧ (parseMethodDescriptor yX12_fail.desc).map (fun d => d.parameters.length) = some 2 := by decide +kernel
theorem hd_X12_advancev : yX12_advance.cls = RX12 ∧ yX12_advance.cls ≠ "java/lang/invoke/MethodHandle" ∧ yX12_advance.cls ≠ "java/lang/invoke/VarHandle" ∧ (parseMethodDescriptor yX12_advance.desc).map (fun d => d.parameters.length) = some 0 := by decide +kernel
theorem hd_X12_isSignv : yX12_isSign.cls = RX12 ∧ yX12_isSign.cls ≠ "java/lang/invoke/MethodHandle" ∧ yX12_isSign.cls ≠ "java/lang/invoke/VarHandle" ∧ (parseMethodDescriptor yX12_isSign.desc).map (fun d => d.parameters.length) = some 1 := by decide +kernel
theorem hd_X12_wrongv : yX12_wrong.cls = RX12 ∧ yX12_wrong.cls ≠ "java/lang/invoke/MethodHandle" ∧ yX12_wrong.cls ≠ "java/lang/invoke/VarHandle" ∧ (parseMethodDescriptor yX12_wrong.desc).map (fun d => d.parameters.length) = some 0 := by decide +kernel
theorem hd_X12_isKeyv : yX12_isKey.cls = RX12 ∧ yX12_isKey.cls ≠ "java/lang/invoke/MethodHandle" ∧ yX12_isKey.cls ≠ "java/lang/invoke/VarHandle" ∧ (parseMethodDescriptor yX12_isKey.desc).map (fun d => d.parameters.length) = some 1 := by decide +kernel
theorem hd_X12_readAndv : yX12_readAnd.cls = RX12 ∧ yX12_readAnd.cls ≠ "java/lang/invoke/MethodHandle" ∧ yX12_readAnd.cls ≠ "java/lang/invoke/VarHandle" ∧ (parseMethodDescriptor yX12_readAnd.desc).map (fun d => d.parameters.length) = some 0 := by decide +kernel
theorem hd_X12_nodev : yX12_node.cls = RX12 ∧ yX12_node.cls ≠ "java/lang/invoke/MethodHandle" ∧ yX12_node.cls ≠ "java/lang/invoke/VarHandle" ∧ (parseMethodDescriptor yX12_node.desc).map (fun d => d.parameters.length) = some 1 := by decide +kernel
theorem hd_X12_readNotv : yX12_readNot.cls = RX12 ∧ yX12_readNot.cls ≠ "java/lang/invoke/MethodHandle" ∧ yX12_readNot.cls ≠ "java/lang/invoke/VarHandle" ∧ (parseMethodDescriptor yX12_readNot.desc).map (fun d => d.parameters.length) = some 0 := by decide +kernel
theorem hd_X12_readComparedv : yX12_readCompared.cls = RX12 ∧ yX12_readCompared.cls ≠ "java/lang/invoke/MethodHandle" ∧ yX12_readCompared.cls ≠ "java/lang/invoke/VarHandle" ∧ (parseMethodDescriptor yX12_readCompared.desc).map (fun d => d.parameters.length) = some 0 := by decide +kernel
theorem hd_X12_readSumv : yX12_readSum.cls = RX12 ∧ yX12_readSum.cls ≠ "java/lang/invoke/MethodHandle" ∧ yX12_readSum.cls ≠ "java/lang/invoke/VarHandle" ∧ (parseMethodDescriptor yX12_readSum.desc).map (fun d => d.parameters.length) = some 0 := by decide +kernel
theorem hd_X12_comparedv : yX12_compared.cls = RX12 ∧ yX12_compared.cls ≠ "java/lang/invoke/MethodHandle" ∧ yX12_compared.cls ≠ "java/lang/invoke/VarHandle" ∧ (parseMethodDescriptor yX12_compared.desc).map (fun d => d.parameters.length) = some 0 := by decide +kernel
theorem hd_X12_isNamev : yX12_isName.cls = RX12 ∧ yX12_isName.cls ≠ "java/lang/invoke/MethodHandle" ∧ yX12_isName.cls ≠ "java/lang/invoke/VarHandle" ∧ (parseMethodDescriptor yX12_isName.desc).map (fun d => d.parameters.length) = some 0 := by decide +kernel
theorem hd_X12_readProductv : yX12_readProduct.cls = RX12 ∧ yX12_readProduct.cls ≠ "java/lang/invoke/MethodHandle" ∧ yX12_readProduct.cls ≠ "java/lang/invoke/VarHandle" ∧ (parseMethodDescriptor yX12_readProduct.desc).map (fun d => d.parameters.length) = some 0 := by decide +kernel
theorem hd_X12_readTurnedv : yX12_readTurned.cls = RX12 ∧ yX12_readTurned.cls ≠ "java/lang/invoke/MethodHandle" ∧ yX12_readTurned.cls ≠ "java/lang/invoke/VarHandle" ∧ (parseMethodDescriptor yX12_readTurned.desc).map (fun d => d.parameters.length) = some 0 := by decide +kernel
theorem hd_X12_readPv : yX12_readP.cls = RX12 ∧ yX12_readP.cls ≠ "java/lang/invoke/MethodHandle" ∧ yX12_readP.cls ≠ "java/lang/invoke/VarHandle" ∧ (parseMethodDescriptor yX12_readP.desc).map (fun d => d.parameters.length) = some 0 := by decide +kernel
theorem hd_X12_readAtomv : yX12_readAtom.cls = RX12 ∧ yX12_readAtom.cls ≠ "java/lang/invoke/MethodHandle" ∧ yX12_readAtom.cls ≠ "java/lang/invoke/VarHandle" ∧ (parseMethodDescriptor yX12_readAtom.desc).map (fun d => d.parameters.length) = some 0 := by decide +kernel
theorem hd_X12_needSignv : yX12_needSign.cls = RX12 ∧ yX12_needSign.cls ≠ "java/lang/invoke/MethodHandle" ∧ yX12_needSign.cls ≠ "java/lang/invoke/VarHandle" ∧ (parseMethodDescriptor yX12_needSign.desc).map (fun d => d.parameters.length) = some 1 := by decide +kernel
theorem hd_X12_readEv : yX12_readE.cls = RX12 ∧ yX12_readE.cls ≠ "java/lang/invoke/MethodHandle" ∧ yX12_readE.cls ≠ "java/lang/invoke/VarHandle" ∧ (parseMethodDescriptor yX12_readE.desc).map (fun d => d.parameters.length) = some 0 := by decide +kernel
theorem hd_X12_nestv : yX12_nest.cls = RX12 ∧ yX12_nest.cls ≠ "java/lang/invoke/MethodHandle" ∧ yX12_nest.cls ≠ "java/lang/invoke/VarHandle" ∧ (parseMethodDescriptor yX12_nest.desc).map (fun d => d.parameters.length) = some 0 := by decide +kernel
theorem hd_X12_keyAtHandv : yX12_keyAtHand.cls = RX12 ∧ yX12_keyAtHand.cls ≠ "java/lang/invoke/MethodHandle" ∧ yX12_keyAtHand.cls ≠ "java/lang/invoke/VarHandle" ∧ (parseMethodDescriptor yX12_keyAtHand.desc).map (fun d => d.parameters.length) = some 0 := by decide +kernel
theorem hd_X12_readFoldv : yX12_readFold.cls = RX12 ∧ yX12_readFold.cls ≠ "java/lang/invoke/MethodHandle" ∧ yX12_readFold.cls ≠ "java/lang/invoke/VarHandle" ∧ (parseMethodDescriptor yX12_readFold.desc).map (fun d => d.parameters.length) = some 1 := by decide +kernel
theorem hd_X12_readSetv : yX12_readSet.cls = RX12 ∧ yX12_readSet.cls ≠ "java/lang/invoke/MethodHandle" ∧ yX12_readSet.cls ≠ "java/lang/invoke/VarHandle" ∧ (parseMethodDescriptor yX12_readSet.desc).map (fun d => d.parameters.length) = some 0 := by decide +kernel
theorem hd_X12_takesKeyv : yX12_takesKey.cls = RX12 ∧ yX12_takesKey.cls ≠ "java/lang/invoke/MethodHandle" ∧ yX12_takesKey.cls ≠ "java/lang/invoke/VarHandle" ∧ (parseMethodDescriptor yX12_takesKey.desc).map (fun d => d.parameters.length) = some 1 := by decide +kernel
theorem hd_X12_beginTextv : yX12_beginText.cls = RX12 ∧ yX12_beginText.cls ≠ "java/lang/invoke/MethodHandle" ∧ yX12_beginText.cls ≠ "java/lang/invoke/VarHandle" ∧ (parseMethodDescriptor yX12_beginText.desc).map (fun d => d.parameters.length) = some 1 := by decide +kernel
theorem hd_X12_endTextv : yX12_endText.cls = RX12 ∧ yX12_endText.cls ≠ "java/lang/invoke/MethodHandle" ∧ yX12_endText.cls ≠ "java/lang/invoke/VarHandle" ∧ (parseMethodDescriptor yX12_endText.desc).map (fun d => d.parameters.length) = some 0 := by decide +kernel
theorem hd_X12_answerAllv : yX12_answerAll.cls = RX12 ∧ yX12_answerAll.cls ≠ "java/lang/invoke/MethodHandle" ∧ yX12_answerAll.cls ≠ "java/lang/invoke/VarHandle" ∧ (parseMethodDescriptor yX12_answerAll.desc).map (fun d => d.parameters.length) = some 4 := by decide +kernel
theorem hd_X12_coded : yX12_coded.cls ≠ "java/lang/invoke/MethodHandle" ∧ yX12_coded.cls ≠ "java/lang/invoke/VarHandle" ∧ (parseMethodDescriptor yX12_coded.desc).map (fun d => d.parameters.length) = some 1 := by decide +kernel
theorem hd_X12_isRuleNamev : yX12_isRuleName.cls = RX12 ∧ yX12_isRuleName.cls ≠ "java/lang/invoke/MethodHandle" ∧ yX12_isRuleName.cls ≠ "java/lang/invoke/VarHandle" ∧ (parseMethodDescriptor yX12_isRuleName.desc).map (fun d => d.parameters.length) = some 0 := by decide +kernel
theorem hd_X12_readVariablev : yX12_readVariable.cls = RX12 ∧ yX12_readVariable.cls ≠ "java/lang/invoke/MethodHandle" ∧ yX12_readVariable.cls ≠ "java/lang/invoke/VarHandle" ∧ (parseMethodDescriptor yX12_readVariable.desc).map (fun d => d.parameters.length) = some 0 := by decide +kernel
theorem hd_X12_takesSignv : yX12_takesSign.cls = RX12 ∧ yX12_takesSign.cls ≠ "java/lang/invoke/MethodHandle" ∧ yX12_takesSign.cls ≠ "java/lang/invoke/VarHandle" ∧ (parseMethodDescriptor yX12_takesSign.desc).map (fun d => d.parameters.length) = some 1 := by decide +kernel
theorem hd_X12_relationAtHandv : yX12_relationAtHand.cls = RX12 ∧ yX12_relationAtHand.cls ≠ "java/lang/invoke/MethodHandle" ∧ yX12_relationAtHand.cls ≠ "java/lang/invoke/VarHandle" ∧ (parseMethodDescriptor yX12_relationAtHand.desc).map (fun d => d.parameters.length) = some 0 := by decide +kernel
theorem hd_X12_readPlacesv : yX12_readPlaces.cls = RX12 ∧ yX12_readPlaces.cls ≠ "java/lang/invoke/MethodHandle" ∧ yX12_readPlaces.cls ≠ "java/lang/invoke/VarHandle" ∧ (parseMethodDescriptor yX12_readPlaces.desc).map (fun d => d.parameters.length) = some 3 := by decide +kernel
theorem hd_X12_isHeldv : yX12_isHeld.cls = RX12 ∧ yX12_isHeld.cls ≠ "java/lang/invoke/MethodHandle" ∧ yX12_isHeld.cls ≠ "java/lang/invoke/VarHandle" ∧ (parseMethodDescriptor yX12_isHeld.desc).map (fun d => d.parameters.length) = some 2 := by decide +kernel
theorem hd_X12_readRelationv : yX12_readRelation.cls = RX12 ∧ yX12_readRelation.cls ≠ "java/lang/invoke/MethodHandle" ∧ yX12_readRelation.cls ≠ "java/lang/invoke/VarHandle" ∧ (parseMethodDescriptor yX12_readRelation.desc).map (fun d => d.parameters.length) = some 3 := by decide +kernel
theorem hd_X12_readAtomOfv : yX12_readAtomOf.cls = RX12 ∧ yX12_readAtomOf.cls ≠ "java/lang/invoke/MethodHandle" ∧ yX12_readAtomOf.cls ≠ "java/lang/invoke/VarHandle" ∧ (parseMethodDescriptor yX12_readAtomOf.desc).map (fun d => d.parameters.length) = some 1 := by decide +kernel
theorem hd_X12_isFactNowv : yX12_isFactNow.cls = RX12 ∧ yX12_isFactNow.cls ≠ "java/lang/invoke/MethodHandle" ∧ yX12_isFactNow.cls ≠ "java/lang/invoke/VarHandle" ∧ (parseMethodDescriptor yX12_isFactNow.desc).map (fun d => d.parameters.length) = some 3 := by decide +kernel
theorem hd_X12_holdsv : yX12_holds.cls = RX12 ∧ yX12_holds.cls ≠ "java/lang/invoke/MethodHandle" ∧ yX12_holds.cls ≠ "java/lang/invoke/VarHandle" ∧ (parseMethodDescriptor yX12_holds.desc).map (fun d => d.parameters.length) = some 3 := by decide +kernel
theorem hd_X12_joinv : yX12_join.cls = RX12 ∧ yX12_join.cls ≠ "java/lang/invoke/MethodHandle" ∧ yX12_join.cls ≠ "java/lang/invoke/VarHandle" ∧ (parseMethodDescriptor yX12_join.desc).map (fun d => d.parameters.length) = some 2 := by decide +kernel
theorem hd_X12_findLinksv : yX12_findLinks.cls = RX12 ∧ yX12_findLinks.cls ≠ "java/lang/invoke/MethodHandle" ∧ yX12_findLinks.cls ≠ "java/lang/invoke/VarHandle" ∧ (parseMethodDescriptor yX12_findLinks.desc).map (fun d => d.parameters.length) = some 1 := by decide +kernel
theorem hd_X12_countv : yX12_count.cls = RX12 ∧ yX12_count.cls ≠ "java/lang/invoke/MethodHandle" ∧ yX12_count.cls ≠ "java/lang/invoke/VarHandle" ∧ (parseMethodDescriptor yX12_count.desc).map (fun d => d.parameters.length) = some 1 := by decide +kernel
theorem hd_X12_readRulev : yX12_readRule.cls = RX12 ∧ yX12_readRule.cls ≠ "java/lang/invoke/MethodHandle" ∧ yX12_readRule.cls ≠ "java/lang/invoke/VarHandle" ∧ (parseMethodDescriptor yX12_readRule.desc).map (fun d => d.parameters.length) = some 0 := by decide +kernel
theorem hd_X12_putNumberv : yX12_putNumber.cls = RX12 ∧ yX12_putNumber.cls ≠ "java/lang/invoke/MethodHandle" ∧ yX12_putNumber.cls ≠ "java/lang/invoke/VarHandle" ∧ (parseMethodDescriptor yX12_putNumber.desc).map (fun d => d.parameters.length) = some 1 := by decide +kernel
theorem hd_X12_check : yX12_check.cls ≠ "java/lang/invoke/MethodHandle" ∧ yX12_check.cls ≠ "java/lang/invoke/VarHandle" ∧ (parseMethodDescriptor yX12_check.desc).map (fun d => d.parameters.length) = some 3 := by decide +kernel
theorem hd_X12_putPicturev : yX12_putPicture.cls = RX12 ∧ yX12_putPicture.cls ≠ "java/lang/invoke/MethodHandle" ∧ yX12_putPicture.cls ≠ "java/lang/invoke/VarHandle" ∧ (parseMethodDescriptor yX12_putPicture.desc).map (fun d => d.parameters.length) = some 1 := by decide +kernel
theorem hd_X12_takeNumberv : yX12_takeNumber.cls = RX12 ∧ yX12_takeNumber.cls ≠ "java/lang/invoke/MethodHandle" ∧ yX12_takeNumber.cls ≠ "java/lang/invoke/VarHandle" ∧ (parseMethodDescriptor yX12_takeNumber.desc).map (fun d => d.parameters.length) = some 0 := by decide +kernel
theorem hd_X12_takeSlotv : yX12_takeSlot.cls = RX12 ∧ yX12_takeSlot.cls ≠ "java/lang/invoke/MethodHandle" ∧ yX12_takeSlot.cls ≠ "java/lang/invoke/VarHandle" ∧ (parseMethodDescriptor yX12_takeSlot.desc).map (fun d => d.parameters.length) = some 2 := by decide +kernel
theorem hd_X12_isTypev : yX12_isType.cls = RX12 ∧ yX12_isType.cls ≠ "java/lang/invoke/MethodHandle" ∧ yX12_isType.cls ≠ "java/lang/invoke/VarHandle" ∧ (parseMethodDescriptor yX12_isType.desc).map (fun d => d.parameters.length) = some 1 := by decide +kernel
theorem hd_X12_meetNextv : yX12_meetNext.cls = RX12 ∧ yX12_meetNext.cls ≠ "java/lang/invoke/MethodHandle" ∧ yX12_meetNext.cls ≠ "java/lang/invoke/VarHandle" ∧ (parseMethodDescriptor yX12_meetNext.desc).map (fun d => d.parameters.length) = some 2 := by decide +kernel
theorem hd_X12_takeBytev : yX12_takeByte.cls = RX12 ∧ yX12_takeByte.cls ≠ "java/lang/invoke/MethodHandle" ∧ yX12_takeByte.cls ≠ "java/lang/invoke/VarHandle" ∧ (parseMethodDescriptor yX12_takeByte.desc).map (fun d => d.parameters.length) = some 1 := by decide +kernel
theorem hd_X12_checkOrderv : yX12_checkOrder.cls = RX12 ∧ yX12_checkOrder.cls ≠ "java/lang/invoke/MethodHandle" ∧ yX12_checkOrder.cls ≠ "java/lang/invoke/VarHandle" ∧ (parseMethodDescriptor yX12_checkOrder.desc).map (fun d => d.parameters.length) = some 0 := by decide +kernel
theorem hd_X12_takeRootsv : yX12_takeRoots.cls = RX12 ∧ yX12_takeRoots.cls ≠ "java/lang/invoke/MethodHandle" ∧ yX12_takeRoots.cls ≠ "java/lang/invoke/VarHandle" ∧ (parseMethodDescriptor yX12_takeRoots.desc).map (fun d => d.parameters.length) = some 0 := by decide +kernel
theorem hd_X12_checkLinksv : yX12_checkLinks.cls = RX12 ∧ yX12_checkLinks.cls ≠ "java/lang/invoke/MethodHandle" ∧ yX12_checkLinks.cls ≠ "java/lang/invoke/VarHandle" ∧ (parseMethodDescriptor yX12_checkLinks.desc).map (fun d => d.parameters.length) = some 0 := by decide +kernel
theorem hd_X12_takeThingv : yX12_takeThing.cls = RX12 ∧ yX12_takeThing.cls ≠ "java/lang/invoke/MethodHandle" ∧ yX12_takeThing.cls ≠ "java/lang/invoke/VarHandle" ∧ (parseMethodDescriptor yX12_takeThing.desc).map (fun d => d.parameters.length) = some 1 := by decide +kernel
theorem hd_X12_takePicturev : yX12_takePicture.cls = RX12 ∧ yX12_takePicture.cls ≠ "java/lang/invoke/MethodHandle" ∧ yX12_takePicture.cls ≠ "java/lang/invoke/VarHandle" ∧ (parseMethodDescriptor yX12_takePicture.desc).map (fun d => d.parameters.length) = some 0 := by decide +kernel
theorem hd_X12_copyNowv : yX12_copyNow.cls = RX12 ∧ yX12_copyNow.cls ≠ "java/lang/invoke/MethodHandle" ∧ yX12_copyNow.cls ≠ "java/lang/invoke/VarHandle" ∧ (parseMethodDescriptor yX12_copyNow.desc).map (fun d => d.parameters.length) = some 1 := by decide +kernel
theorem hd_X12_takeRecordv : yX12_takeRecord.cls = RX12 ∧ yX12_takeRecord.cls ≠ "java/lang/invoke/MethodHandle" ∧ yX12_takeRecord.cls ≠ "java/lang/invoke/VarHandle" ∧ (parseMethodDescriptor yX12_takeRecord.desc).map (fun d => d.parameters.length) = some 1 := by decide +kernel
theorem hd_J3_checkIndex_8e157 : yJ3_checkIndex_8e157.cls ≠ "java/lang/invoke/MethodHandle" ∧ yJ3_checkIndex_8e157.cls ≠ "java/lang/invoke/VarHandle" ∧ (parseMethodDescriptor yJ3_checkIndex_8e157.desc).map (fun d => d.parameters.length) = some 3 := by decide +kernel
theorem hd_J0_checkIndex_df160 : yJ0_checkIndex_df160.cls ≠ "java/lang/invoke/MethodHandle" ∧ yJ0_checkIndex_df160.cls ≠ "java/lang/invoke/VarHandle" ∧ (parseMethodDescriptor yJ0_checkIndex_df160.desc).map (fun d => d.parameters.length) = some 2 := by decide +kernel
theorem hd_J1_charAt_3b067 : yJ1_charAt_3b067.cls ≠ "java/lang/invoke/MethodHandle" ∧ yJ1_charAt_3b067.cls ≠ "java/lang/invoke/VarHandle" ∧ (parseMethodDescriptor yJ1_charAt_3b067.desc).map (fun d => d.parameters.length) = some 2 := by decide +kernel
theorem hd_J0_charAt_5068ev : yJ0_charAt_5068e.cls = RJ0 ∧ yJ0_charAt_5068e.cls ≠ "java/lang/invoke/MethodHandle" ∧ yJ0_charAt_5068e.cls ≠ "java/lang/invoke/VarHandle" ∧ (parseMethodDescriptor yJ0_charAt_5068e.desc).map (fun d => d.parameters.length) = some 1 := by decide +kernel
theorem hd_X9_init : yX9_init.cls ≠ "java/lang/invoke/MethodHandle" ∧ yX9_init.cls ≠ "java/lang/invoke/VarHandle" ∧ (parseMethodDescriptor yX9_init.desc).map (fun d => d.parameters.length) = some 0 := by decide +kernel
theorem hd_X10_init : yX10_init.cls ≠ "java/lang/invoke/MethodHandle" ∧ yX10_init.cls ≠ "java/lang/invoke/VarHandle" ∧ (parseMethodDescriptor yX10_init.desc).map (fun d => d.parameters.length) = some 0 := by decide +kernel
theorem hd_X2_init : yX2_init.cls ≠ "java/lang/invoke/MethodHandle" ∧ yX2_init.cls ≠ "java/lang/invoke/VarHandle" ∧ (parseMethodDescriptor yX2_init.desc).map (fun d => d.parameters.length) = some 1 := by decide +kernel
theorem hd_X3_init : yX3_init.cls ≠ "java/lang/invoke/MethodHandle" ∧ yX3_init.cls ≠ "java/lang/invoke/VarHandle" ∧ (parseMethodDescriptor yX3_init.desc).map (fun d => d.parameters.length) = some 1 := by decide +kernel
theorem hd_X8_init : yX8_init.cls ≠ "java/lang/invoke/MethodHandle" ∧ yX8_init.cls ≠ "java/lang/invoke/VarHandle" ∧ (parseMethodDescriptor yX8_init.desc).map (fun d => d.parameters.length) = some 1 := by decide +kernel
theorem hd_X5_init : yX5_init.cls ≠ "java/lang/invoke/MethodHandle" ∧ yX5_init.cls ≠ "java/lang/invoke/VarHandle" ∧ (parseMethodDescriptor yX5_init.desc).map (fun d => d.parameters.length) = some 1 := by decide +kernel
theorem hd_X6_init : yX6_init.cls ≠ "java/lang/invoke/MethodHandle" ∧ yX6_init.cls ≠ "java/lang/invoke/VarHandle" ∧ (parseMethodDescriptor yX6_init.desc).map (fun d => d.parameters.length) = some 1 := by decide +kernel
theorem hd_X4_init : yX4_init.cls ≠ "java/lang/invoke/MethodHandle" ∧ yX4_init.cls ≠ "java/lang/invoke/VarHandle" ∧ (parseMethodDescriptor yX4_init.desc).map (fun d => d.parameters.length) = some 1 := by decide +kernel
theorem hd_X9_codeOf : yX9_codeOf.cls ≠ "java/lang/invoke/MethodHandle" ∧ yX9_codeOf.cls ≠ "java/lang/invoke/VarHandle" ∧ (parseMethodDescriptor yX9_codeOf.desc).map (fun d => d.parameters.length) = some 1 := by decide +kernel
theorem hd_X7_init : yX7_init.cls ≠ "java/lang/invoke/MethodHandle" ∧ yX7_init.cls ≠ "java/lang/invoke/VarHandle" ∧ (parseMethodDescriptor yX7_init.desc).map (fun d => d.parameters.length) = some 1 := by decide +kernel
theorem hd_X1_init : yX1_init.cls ≠ "java/lang/invoke/MethodHandle" ∧ yX1_init.cls ≠ "java/lang/invoke/VarHandle" ∧ (parseMethodDescriptor yX1_init.desc).map (fun d => d.parameters.length) = some 1 := by decide +kernel
theorem hd_X0_init : yX0_init.cls ≠ "java/lang/invoke/MethodHandle" ∧ yX0_init.cls ≠ "java/lang/invoke/VarHandle" ∧ (parseMethodDescriptor yX0_init.desc).map (fun d => d.parameters.length) = some 1 := by decide +kernel
theorem hd_X11_typev : yX11_type.cls = RX11 ∧ yX11_type.cls ≠ "java/lang/invoke/MethodHandle" ∧ yX11_type.cls ≠ "java/lang/invoke/VarHandle" ∧ (parseMethodDescriptor yX11_type.desc).map (fun d => d.parameters.length) = some 2 := by decide +kernel
theorem hd_X11_fieldv : yX11_field.cls = RX11 ∧ yX11_field.cls ≠ "java/lang/invoke/MethodHandle" ∧ yX11_field.cls ≠ "java/lang/invoke/VarHandle" ∧ (parseMethodDescriptor yX11_field.desc).map (fun d => d.parameters.length) = some 4 := by decide +kernel
theorem hd_X11_makev : yX11_make.cls = RX11 ∧ yX11_make.cls ≠ "java/lang/invoke/MethodHandle" ∧ yX11_make.cls ≠ "java/lang/invoke/VarHandle" ∧ (parseMethodDescriptor yX11_make.desc).map (fun d => d.parameters.length) = some 2 := by decide +kernel
theorem hd_X11_rootv : yX11_root.cls = RX11 ∧ yX11_root.cls ≠ "java/lang/invoke/MethodHandle" ∧ yX11_root.cls ≠ "java/lang/invoke/VarHandle" ∧ (parseMethodDescriptor yX11_root.desc).map (fun d => d.parameters.length) = some 2 := by decide +kernel
theorem hd_X11_setv : yX11_set.cls = RX11 ∧ yX11_set.cls ≠ "java/lang/invoke/MethodHandle" ∧ yX11_set.cls ≠ "java/lang/invoke/VarHandle" ∧ (parseMethodDescriptor yX11_set.desc).map (fun d => d.parameters.length) = some 3 := by decide +kernel
theorem hd_X11_setStaticv : yX11_setStatic.cls = RX11 ∧ yX11_setStatic.cls ≠ "java/lang/invoke/MethodHandle" ∧ yX11_setStatic.cls ≠ "java/lang/invoke/VarHandle" ∧ (parseMethodDescriptor yX11_setStatic.desc).map (fun d => d.parameters.length) = some 3 := by decide +kernel
theorem hd_X11_getv : yX11_get.cls = RX11 ∧ yX11_get.cls ≠ "java/lang/invoke/MethodHandle" ∧ yX11_get.cls ≠ "java/lang/invoke/VarHandle" ∧ (parseMethodDescriptor yX11_get.desc).map (fun d => d.parameters.length) = some 2 := by decide +kernel
theorem hd_X11_getStaticv : yX11_getStatic.cls = RX11 ∧ yX11_getStatic.cls ≠ "java/lang/invoke/MethodHandle" ∧ yX11_getStatic.cls ≠ "java/lang/invoke/VarHandle" ∧ (parseMethodDescriptor yX11_getStatic.desc).map (fun d => d.parameters.length) = some 2 := by decide +kernel
theorem hd_X11_swapv : yX11_swap.cls = RX11 ∧ yX11_swap.cls ≠ "java/lang/invoke/MethodHandle" ∧ yX11_swap.cls ≠ "java/lang/invoke/VarHandle" ∧ (parseMethodDescriptor yX11_swap.desc).map (fun d => d.parameters.length) = some 2 := by decide +kernel
theorem hd_X11_copyv : yX11_copy.cls = RX11 ∧ yX11_copy.cls ≠ "java/lang/invoke/MethodHandle" ∧ yX11_copy.cls ≠ "java/lang/invoke/VarHandle" ∧ (parseMethodDescriptor yX11_copy.desc).map (fun d => d.parameters.length) = some 2 := by decide +kernel
theorem hd_X11_watchv : yX11_watch.cls = RX11 ∧ yX11_watch.cls ≠ "java/lang/invoke/MethodHandle" ∧ yX11_watch.cls ≠ "java/lang/invoke/VarHandle" ∧ (parseMethodDescriptor yX11_watch.desc).map (fun d => d.parameters.length) = some 3 := by decide +kernel
theorem hd_X11_rowv : yX11_row.cls = RX11 ∧ yX11_row.cls ≠ "java/lang/invoke/MethodHandle" ∧ yX11_row.cls ≠ "java/lang/invoke/VarHandle" ∧ (parseMethodDescriptor yX11_row.desc).map (fun d => d.parameters.length) = some 3 := by decide +kernel
theorem hd_X11_promisev : yX11_promise.cls = RX11 ∧ yX11_promise.cls ≠ "java/lang/invoke/MethodHandle" ∧ yX11_promise.cls ≠ "java/lang/invoke/VarHandle" ∧ (parseMethodDescriptor yX11_promise.desc).map (fun d => d.parameters.length) = some 0 := by decide +kernel
theorem hd_X11_brokenv : yX11_broken.cls = RX11 ∧ yX11_broken.cls ≠ "java/lang/invoke/MethodHandle" ∧ yX11_broken.cls ≠ "java/lang/invoke/VarHandle" ∧ (parseMethodDescriptor yX11_broken.desc).map (fun d => d.parameters.length) = some 1 := by decide +kernel
theorem hd_X11_takev : yX11_take.cls = RX11 ∧ yX11_take.cls ≠ "java/lang/invoke/MethodHandle" ∧ yX11_take.cls ≠ "java/lang/invoke/VarHandle" ∧ (parseMethodDescriptor yX11_take.desc).map (fun d => d.parameters.length) = some 1 := by decide +kernel
theorem hd_X11_slotv : yX11_slot.cls = RX11 ∧ yX11_slot.cls ≠ "java/lang/invoke/MethodHandle" ∧ yX11_slot.cls ≠ "java/lang/invoke/VarHandle" ∧ (parseMethodDescriptor yX11_slot.desc).map (fun d => d.parameters.length) = some 3 := by decide +kernel
theorem hd_X11_holderv : yX11_holder.cls = RX11 ∧ yX11_holder.cls ≠ "java/lang/invoke/MethodHandle" ∧ yX11_holder.cls ≠ "java/lang/invoke/VarHandle" ∧ (parseMethodDescriptor yX11_holder.desc).map (fun d => d.parameters.length) = some 4 := by decide +kernel
theorem hd_X11_memberv : yX11_member.cls = RX11 ∧ yX11_member.cls ≠ "java/lang/invoke/MethodHandle" ∧ yX11_member.cls ≠ "java/lang/invoke/VarHandle" ∧ (parseMethodDescriptor yX11_member.desc).map (fun d => d.parameters.length) = some 4 := by decide +kernel
theorem hd_X11_lostv : yX11_lost.cls = RX11 ∧ yX11_lost.cls ≠ "java/lang/invoke/MethodHandle" ∧ yX11_lost.cls ≠ "java/lang/invoke/VarHandle" ∧ (parseMethodDescriptor yX11_lost.desc).map (fun d => d.parameters.length) = some 1 := by decide +kernel
theorem hd_X11_growthv : yX11_growth.cls = RX11 ∧ yX11_growth.cls ≠ "java/lang/invoke/MethodHandle" ∧ yX11_growth.cls ≠ "java/lang/invoke/VarHandle" ∧ (parseMethodDescriptor yX11_growth.desc).map (fun d => d.parameters.length) = some 3 := by decide +kernel
theorem hd_X11_likev : yX11_like.cls = RX11 ∧ yX11_like.cls ≠ "java/lang/invoke/MethodHandle" ∧ yX11_like.cls ≠ "java/lang/invoke/VarHandle" ∧ (parseMethodDescriptor yX11_like.desc).map (fun d => d.parameters.length) = some 4 := by decide +kernel
theorem hd_X11_askv : yX11_ask.cls = RX11 ∧ yX11_ask.cls ≠ "java/lang/invoke/MethodHandle" ∧ yX11_ask.cls ≠ "java/lang/invoke/VarHandle" ∧ (parseMethodDescriptor yX11_ask.desc).map (fun d => d.parameters.length) = some 1 := by decide +kernel
theorem hd_X11_answerv : yX11_answer.cls = RX11 ∧ yX11_answer.cls ≠ "java/lang/invoke/MethodHandle" ∧ yX11_answer.cls ≠ "java/lang/invoke/VarHandle" ∧ (parseMethodDescriptor yX11_answer.desc).map (fun d => d.parameters.length) = some 2 := by decide +kernel
theorem hd_X11_rulesv : yX11_rules.cls = RX11 ∧ yX11_rules.cls ≠ "java/lang/invoke/MethodHandle" ∧ yX11_rules.cls ≠ "java/lang/invoke/VarHandle" ∧ (parseMethodDescriptor yX11_rules.desc).map (fun d => d.parameters.length) = some 1 := by decide +kernel
theorem hd_X11_isFactv : yX11_isFact.cls = RX11 ∧ yX11_isFact.cls ≠ "java/lang/invoke/MethodHandle" ∧ yX11_isFact.cls ≠ "java/lang/invoke/VarHandle" ∧ (parseMethodDescriptor yX11_isFact.desc).map (fun d => d.parameters.length) = some 3 := by decide +kernel
theorem hd_X11_bytesv : yX11_bytes.cls = RX11 ∧ yX11_bytes.cls ≠ "java/lang/invoke/MethodHandle" ∧ yX11_bytes.cls ≠ "java/lang/invoke/VarHandle" ∧ (parseMethodDescriptor yX11_bytes.desc).map (fun d => d.parameters.length) = some 1 := by decide +kernel
theorem hd_X11_loadv : yX11_load.cls = RX11 ∧ yX11_load.cls ≠ "java/lang/invoke/MethodHandle" ∧ yX11_load.cls ≠ "java/lang/invoke/VarHandle" ∧ (parseMethodDescriptor yX11_load.desc).map (fun d => d.parameters.length) = some 1 := by decide +kernel
theorem hd_X11_keepv : yX11_keep.cls = RX11 ∧ yX11_keep.cls ≠ "java/lang/invoke/MethodHandle" ∧ yX11_keep.cls ≠ "java/lang/invoke/VarHandle" ∧ (parseMethodDescriptor yX11_keep.desc).map (fun d => d.parameters.length) = some 1 := by decide +kernel
theorem hd_X11_recallv : yX11_recall.cls = RX11 ∧ yX11_recall.cls ≠ "java/lang/invoke/MethodHandle" ∧ yX11_recall.cls ≠ "java/lang/invoke/VarHandle" ∧ (parseMethodDescriptor yX11_recall.desc).map (fun d => d.parameters.length) = some 2 := by decide +kernel
theorem hd_X11_feedv : yX11_feed.cls = RX11 ∧ yX11_feed.cls ≠ "java/lang/invoke/MethodHandle" ∧ yX11_feed.cls ≠ "java/lang/invoke/VarHandle" ∧ (parseMethodDescriptor yX11_feed.desc).map (fun d => d.parameters.length) = some 5 := by decide +kernel
theorem hd_X12_feedv : yX12_feed.cls = RX12 ∧ yX12_feed.cls ≠ "java/lang/invoke/MethodHandle" ∧ yX12_feed.cls ≠ "java/lang/invoke/VarHandle" ∧ (parseMethodDescriptor yX12_feed.desc).map (fun d => d.parameters.length) = some 5 := by decide +kernel
theorem hd_X11_endv : yX11_end.cls = RX11 ∧ yX11_end.cls ≠ "java/lang/invoke/MethodHandle" ∧ yX11_end.cls ≠ "java/lang/invoke/VarHandle" ∧ (parseMethodDescriptor yX11_end.desc).map (fun d => d.parameters.length) = some 1 := by decide +kernel
theorem hd_X12_endv : yX12_end.cls = RX12 ∧ yX12_end.cls ≠ "java/lang/invoke/MethodHandle" ∧ yX12_end.cls ≠ "java/lang/invoke/VarHandle" ∧ (parseMethodDescriptor yX12_end.desc).map (fun d => d.parameters.length) = some 1 := by decide +kernel
theorem hd_X11_wipev : yX11_wipe.cls = RX11 ∧ yX11_wipe.cls ≠ "java/lang/invoke/MethodHandle" ∧ yX11_wipe.cls ≠ "java/lang/invoke/VarHandle" ∧ (parseMethodDescriptor yX11_wipe.desc).map (fun d => d.parameters.length) = some 0 := by decide +kernel
theorem hd_X12_wipev : yX12_wipe.cls = RX12 ∧ yX12_wipe.cls ≠ "java/lang/invoke/MethodHandle" ∧ yX12_wipe.cls ≠ "java/lang/invoke/VarHandle" ∧ (parseMethodDescriptor yX12_wipe.desc).map (fun d => d.parameters.length) = some 0 := by decide +kernel
theorem hd_X11_flipv : yX11_flip.cls = RX11 ∧ yX11_flip.cls ≠ "java/lang/invoke/MethodHandle" ∧ yX11_flip.cls ≠ "java/lang/invoke/VarHandle" ∧ (parseMethodDescriptor yX11_flip.desc).map (fun d => d.parameters.length) = some 2 := by decide +kernel
theorem hd_X12_flipv : yX12_flip.cls = RX12 ∧ yX12_flip.cls ≠ "java/lang/invoke/MethodHandle" ∧ yX12_flip.cls ≠ "java/lang/invoke/VarHandle" ∧ (parseMethodDescriptor yX12_flip.desc).map (fun d => d.parameters.length) = some 2 := by decide +kernel
theorem hd_X11_cutv : yX11_cut.cls = RX11 ∧ yX11_cut.cls ≠ "java/lang/invoke/MethodHandle" ∧ yX11_cut.cls ≠ "java/lang/invoke/VarHandle" ∧ (parseMethodDescriptor yX11_cut.desc).map (fun d => d.parameters.length) = some 1 := by decide +kernel
theorem hd_X12_cutv : yX12_cut.cls = RX12 ∧ yX12_cut.cls ≠ "java/lang/invoke/MethodHandle" ∧ yX12_cut.cls ≠ "java/lang/invoke/VarHandle" ∧ (parseMethodDescriptor yX12_cut.desc).map (fun d => d.parameters.length) = some 1 := by decide +kernel
theorem hd_L_type : yL_type.cls ≠ "java/lang/invoke/MethodHandle" ∧ yL_type.cls ≠ "java/lang/invoke/VarHandle" ∧ (parseMethodDescriptor yL_type.desc).map (fun d => d.parameters.length) = some 4 := by decide +kernel
theorem hd_X12_typev : yX12_type.cls = RX12 ∧ yX12_type.cls ≠ "java/lang/invoke/MethodHandle" ∧ yX12_type.cls ≠ "java/lang/invoke/VarHandle" ∧ (parseMethodDescriptor yX12_type.desc).map (fun d => d.parameters.length) = some 2 := by decide +kernel
theorem hd_X12_thrownv : yX12_thrown.cls = RX12 ∧ yX12_thrown.cls ≠ "java/lang/invoke/MethodHandle" ∧ yX12_thrown.cls ≠ "java/lang/invoke/VarHandle" ∧ (parseMethodDescriptor yX12_thrown.desc).map (fun d => d.parameters.length) = some 0 := by decide +kernel
theorem hd_L_field : yL_field.cls ≠ "java/lang/invoke/MethodHandle" ∧ yL_field.cls ≠ "java/lang/invoke/VarHandle" ∧ (parseMethodDescriptor yL_field.desc).map (fun d => d.parameters.length) = some 6 := by decide +kernel
theorem hd_X12_fieldv : yX12_field.cls = RX12 ∧ yX12_field.cls ≠ "java/lang/invoke/MethodHandle" ∧ yX12_field.cls ≠ "java/lang/invoke/VarHandle" ∧ (parseMethodDescriptor yX12_field.desc).map (fun d => d.parameters.length) = some 4 := by decide +kernel
theorem hd_X11_typeLookv : yX11_typeLook.cls = RX11 ∧ yX11_typeLook.cls ≠ "java/lang/invoke/MethodHandle" ∧ yX11_typeLook.cls ≠ "java/lang/invoke/VarHandle" ∧ (parseMethodDescriptor yX11_typeLook.desc).map (fun d => d.parameters.length) = some 2 := by decide +kernel
theorem hd_X12_typeLookv : yX12_typeLook.cls = RX12 ∧ yX12_typeLook.cls ≠ "java/lang/invoke/MethodHandle" ∧ yX12_typeLook.cls ≠ "java/lang/invoke/VarHandle" ∧ (parseMethodDescriptor yX12_typeLook.desc).map (fun d => d.parameters.length) = some 2 := by decide +kernel
theorem hd_X11_fieldLookv : yX11_fieldLook.cls = RX11 ∧ yX11_fieldLook.cls ≠ "java/lang/invoke/MethodHandle" ∧ yX11_fieldLook.cls ≠ "java/lang/invoke/VarHandle" ∧ (parseMethodDescriptor yX11_fieldLook.desc).map (fun d => d.parameters.length) = some 3 := by decide +kernel
theorem hd_X12_fieldLookv : yX12_fieldLook.cls = RX12 ∧ yX12_fieldLook.cls ≠ "java/lang/invoke/MethodHandle" ∧ yX12_fieldLook.cls ≠ "java/lang/invoke/VarHandle" ∧ (parseMethodDescriptor yX12_fieldLook.desc).map (fun d => d.parameters.length) = some 3 := by decide +kernel
theorem hd_L_make : yL_make.cls ≠ "java/lang/invoke/MethodHandle" ∧ yL_make.cls ≠ "java/lang/invoke/VarHandle" ∧ (parseMethodDescriptor yL_make.desc).map (fun d => d.parameters.length) = some 4 := by decide +kernel
theorem hd_X12_makev : yX12_make.cls = RX12 ∧ yX12_make.cls ≠ "java/lang/invoke/MethodHandle" ∧ yX12_make.cls ≠ "java/lang/invoke/VarHandle" ∧ (parseMethodDescriptor yX12_make.desc).map (fun d => d.parameters.length) = some 2 := by decide +kernel
theorem hd_L_root : yL_root.cls ≠ "java/lang/invoke/MethodHandle" ∧ yL_root.cls ≠ "java/lang/invoke/VarHandle" ∧ (parseMethodDescriptor yL_root.desc).map (fun d => d.parameters.length) = some 3 := by decide +kernel
theorem hd_X12_rootv : yX12_root.cls = RX12 ∧ yX12_root.cls ≠ "java/lang/invoke/MethodHandle" ∧ yX12_root.cls ≠ "java/lang/invoke/VarHandle" ∧ (parseMethodDescriptor yX12_root.desc).map (fun d => d.parameters.length) = some 2 := by decide +kernel
theorem hd_L_set : yL_set.cls ≠ "java/lang/invoke/MethodHandle" ∧ yL_set.cls ≠ "java/lang/invoke/VarHandle" ∧ (parseMethodDescriptor yL_set.desc).map (fun d => d.parameters.length) = some 5 := by decide +kernel
theorem hd_X12_setv : yX12_set.cls = RX12 ∧ yX12_set.cls ≠ "java/lang/invoke/MethodHandle" ∧ yX12_set.cls ≠ "java/lang/invoke/VarHandle" ∧ (parseMethodDescriptor yX12_set.desc).map (fun d => d.parameters.length) = some 3 := by decide +kernel
theorem hd_L_setStatic : yL_setStatic.cls ≠ "java/lang/invoke/MethodHandle" ∧ yL_setStatic.cls ≠ "java/lang/invoke/VarHandle" ∧ (parseMethodDescriptor yL_setStatic.desc).map (fun d => d.parameters.length) = some 5 := by decide +kernel
theorem hd_X12_setStaticv : yX12_setStatic.cls = RX12 ∧ yX12_setStatic.cls ≠ "java/lang/invoke/MethodHandle" ∧ yX12_setStatic.cls ≠ "java/lang/invoke/VarHandle" ∧ (parseMethodDescriptor yX12_setStatic.desc).map (fun d => d.parameters.length) = some 3 := by decide +kernel
theorem hd_L_get : yL_get.cls ≠ "java/lang/invoke/MethodHandle" ∧ yL_get.cls ≠ "java/lang/invoke/VarHandle" ∧ (parseMethodDescriptor yL_get.desc).map (fun d => d.parameters.length) = some 4 := by decide +kernel
theorem hd_X12_getv : yX12_get.cls = RX12 ∧ yX12_get.cls ≠ "java/lang/invoke/MethodHandle" ∧ yX12_get.cls ≠ "java/lang/invoke/VarHandle" ∧ (parseMethodDescriptor yX12_get.desc).map (fun d => d.parameters.length) = some 2 := by decide +kernel
theorem hd_L_getStatic : yL_getStatic.cls ≠ "java/lang/invoke/MethodHandle" ∧ yL_getStatic.cls ≠ "java/lang/invoke/VarHandle" ∧ (parseMethodDescriptor yL_getStatic.desc).map (fun d => d.parameters.length) = some 4 := by decide +kernel
theorem hd_X12_getStaticv : yX12_getStatic.cls = RX12 ∧ yX12_getStatic.cls ≠ "java/lang/invoke/MethodHandle" ∧ yX12_getStatic.cls ≠ "java/lang/invoke/VarHandle" ∧ (parseMethodDescriptor yX12_getStatic.desc).map (fun d => d.parameters.length) = some 2 := by decide +kernel
theorem hd_X11_objectv : yX11_object.cls = RX11 ∧ yX11_object.cls ≠ "java/lang/invoke/MethodHandle" ∧ yX11_object.cls ≠ "java/lang/invoke/VarHandle" ∧ (parseMethodDescriptor yX11_object.desc).map (fun d => d.parameters.length) = some 2 := by decide +kernel
theorem hd_X12_objectv : yX12_object.cls = RX12 ∧ yX12_object.cls ≠ "java/lang/invoke/MethodHandle" ∧ yX12_object.cls ≠ "java/lang/invoke/VarHandle" ∧ (parseMethodDescriptor yX12_object.desc).map (fun d => d.parameters.length) = some 2 := by decide +kernel
theorem hd_X11_collectv : yX11_collect.cls = RX11 ∧ yX11_collect.cls ≠ "java/lang/invoke/MethodHandle" ∧ yX11_collect.cls ≠ "java/lang/invoke/VarHandle" ∧ (parseMethodDescriptor yX11_collect.desc).map (fun d => d.parameters.length) = some 0 := by decide +kernel
theorem hd_X12_collectv : yX12_collect.cls = RX12 ∧ yX12_collect.cls ≠ "java/lang/invoke/MethodHandle" ∧ yX12_collect.cls ≠ "java/lang/invoke/VarHandle" ∧ (parseMethodDescriptor yX12_collect.desc).map (fun d => d.parameters.length) = some 0 := by decide +kernel
theorem hd_X11_undov : yX11_undo.cls = RX11 ∧ yX11_undo.cls ≠ "java/lang/invoke/MethodHandle" ∧ yX11_undo.cls ≠ "java/lang/invoke/VarHandle" ∧ (parseMethodDescriptor yX11_undo.desc).map (fun d => d.parameters.length) = some 0 := by decide +kernel
theorem hd_X12_undov : yX12_undo.cls = RX12 ∧ yX12_undo.cls ≠ "java/lang/invoke/MethodHandle" ∧ yX12_undo.cls ≠ "java/lang/invoke/VarHandle" ∧ (parseMethodDescriptor yX12_undo.desc).map (fun d => d.parameters.length) = some 0 := by decide +kernel
theorem hd_L_swap : yL_swap.cls ≠ "java/lang/invoke/MethodHandle" ∧ yL_swap.cls ≠ "java/lang/invoke/VarHandle" ∧ (parseMethodDescriptor yL_swap.desc).map (fun d => d.parameters.length) = some 4 := by decide +kernel
theorem hd_X12_swapv : yX12_swap.cls = RX12 ∧ yX12_swap.cls ≠ "java/lang/invoke/MethodHandle" ∧ yX12_swap.cls ≠ "java/lang/invoke/VarHandle" ∧ (parseMethodDescriptor yX12_swap.desc).map (fun d => d.parameters.length) = some 2 := by decide +kernel
theorem hd_L_copy : yL_copy.cls ≠ "java/lang/invoke/MethodHandle" ∧ yL_copy.cls ≠ "java/lang/invoke/VarHandle" ∧ (parseMethodDescriptor yL_copy.desc).map (fun d => d.parameters.length) = some 4 := by decide +kernel
theorem hd_X12_copyv : yX12_copy.cls = RX12 ∧ yX12_copy.cls ≠ "java/lang/invoke/MethodHandle" ∧ yX12_copy.cls ≠ "java/lang/invoke/VarHandle" ∧ (parseMethodDescriptor yX12_copy.desc).map (fun d => d.parameters.length) = some 2 := by decide +kernel
theorem hd_X11_apartv : yX11_apart.cls = RX11 ∧ yX11_apart.cls ≠ "java/lang/invoke/MethodHandle" ∧ yX11_apart.cls ≠ "java/lang/invoke/VarHandle" ∧ (parseMethodDescriptor yX11_apart.desc).map (fun d => d.parameters.length) = some 2 := by decide +kernel
theorem hd_X12_apartv : yX12_apart.cls = RX12 ∧ yX12_apart.cls ≠ "java/lang/invoke/MethodHandle" ∧ yX12_apart.cls ≠ "java/lang/invoke/VarHandle" ∧ (parseMethodDescriptor yX12_apart.desc).map (fun d => d.parameters.length) = some 2 := by decide +kernel
theorem hd_L_watch : yL_watch.cls ≠ "java/lang/invoke/MethodHandle" ∧ yL_watch.cls ≠ "java/lang/invoke/VarHandle" ∧ (parseMethodDescriptor yL_watch.desc).map (fun d => d.parameters.length) = some 5 := by decide +kernel
theorem hd_X12_watchv : yX12_watch.cls = RX12 ∧ yX12_watch.cls ≠ "java/lang/invoke/MethodHandle" ∧ yX12_watch.cls ≠ "java/lang/invoke/VarHandle" ∧ (parseMethodDescriptor yX12_watch.desc).map (fun d => d.parameters.length) = some 3 := by decide +kernel
theorem hd_X12_rowsv : yX12_rows.cls = RX12 ∧ yX12_rows.cls ≠ "java/lang/invoke/MethodHandle" ∧ yX12_rows.cls ≠ "java/lang/invoke/VarHandle" ∧ (parseMethodDescriptor yX12_rows.desc).map (fun d => d.parameters.length) = some 1 := by decide +kernel
theorem hd_L_row : yL_row.cls ≠ "java/lang/invoke/MethodHandle" ∧ yL_row.cls ≠ "java/lang/invoke/VarHandle" ∧ (parseMethodDescriptor yL_row.desc).map (fun d => d.parameters.length) = some 5 := by decide +kernel
theorem hd_X12_rowv : yX12_row.cls = RX12 ∧ yX12_row.cls ≠ "java/lang/invoke/MethodHandle" ∧ yX12_row.cls ≠ "java/lang/invoke/VarHandle" ∧ (parseMethodDescriptor yX12_row.desc).map (fun d => d.parameters.length) = some 3 := by decide +kernel
theorem hd_L_promise : yL_promise.cls ≠ "java/lang/invoke/MethodHandle" ∧ yL_promise.cls ≠ "java/lang/invoke/VarHandle" ∧ (parseMethodDescriptor yL_promise.desc).map (fun d => d.parameters.length) = some 2 := by decide +kernel
theorem hd_X12_promisev : yX12_promise.cls = RX12 ∧ yX12_promise.cls ≠ "java/lang/invoke/MethodHandle" ∧ yX12_promise.cls ≠ "java/lang/invoke/VarHandle" ∧ (parseMethodDescriptor yX12_promise.desc).map (fun d => d.parameters.length) = some 0 := by decide +kernel
theorem hd_L_broken : yL_broken.cls ≠ "java/lang/invoke/MethodHandle" ∧ yL_broken.cls ≠ "java/lang/invoke/VarHandle" ∧ (parseMethodDescriptor yL_broken.desc).map (fun d => d.parameters.length) = some 3 := by decide +kernel
theorem hd_X12_brokenv : yX12_broken.cls = RX12 ∧ yX12_broken.cls ≠ "java/lang/invoke/MethodHandle" ∧ yX12_broken.cls ≠ "java/lang/invoke/VarHandle" ∧ (parseMethodDescriptor yX12_broken.desc).map (fun d => d.parameters.length) = some 1 := by decide +kernel
theorem hd_L_take : yL_take.cls ≠ "java/lang/invoke/MethodHandle" ∧ yL_take.cls ≠ "java/lang/invoke/VarHandle" ∧ (parseMethodDescriptor yL_take.desc).map (fun d => d.parameters.length) = some 3 := by decide +kernel
theorem hd_X12_takev : yX12_take.cls = RX12 ∧ yX12_take.cls ≠ "java/lang/invoke/MethodHandle" ∧ yX12_take.cls ≠ "java/lang/invoke/VarHandle" ∧ (parseMethodDescriptor yX12_take.desc).map (fun d => d.parameters.length) = some 1 := by decide +kernel
theorem hd_X11_thingv : yX11_thing.cls = RX11 ∧ yX11_thing.cls ≠ "java/lang/invoke/MethodHandle" ∧ yX11_thing.cls ≠ "java/lang/invoke/VarHandle" ∧ (parseMethodDescriptor yX11_thing.desc).map (fun d => d.parameters.length) = some 3 := by decide +kernel
theorem hd_X12_thingv : yX12_thing.cls = RX12 ∧ yX12_thing.cls ≠ "java/lang/invoke/MethodHandle" ∧ yX12_thing.cls ≠ "java/lang/invoke/VarHandle" ∧ (parseMethodDescriptor yX12_thing.desc).map (fun d => d.parameters.length) = some 3 := by decide +kernel
theorem hd_L_slot : yL_slot.cls ≠ "java/lang/invoke/MethodHandle" ∧ yL_slot.cls ≠ "java/lang/invoke/VarHandle" ∧ (parseMethodDescriptor yL_slot.desc).map (fun d => d.parameters.length) = some 5 := by decide +kernel
theorem hd_X12_slotv : yX12_slot.cls = RX12 ∧ yX12_slot.cls ≠ "java/lang/invoke/MethodHandle" ∧ yX12_slot.cls ≠ "java/lang/invoke/VarHandle" ∧ (parseMethodDescriptor yX12_slot.desc).map (fun d => d.parameters.length) = some 3 := by decide +kernel
theorem hd_L_holder : yL_holder.cls ≠ "java/lang/invoke/MethodHandle" ∧ yL_holder.cls ≠ "java/lang/invoke/VarHandle" ∧ (parseMethodDescriptor yL_holder.desc).map (fun d => d.parameters.length) = some 6 := by decide +kernel
theorem hd_X12_holderv : yX12_holder.cls = RX12 ∧ yX12_holder.cls ≠ "java/lang/invoke/MethodHandle" ∧ yX12_holder.cls ≠ "java/lang/invoke/VarHandle" ∧ (parseMethodDescriptor yX12_holder.desc).map (fun d => d.parameters.length) = some 4 := by decide +kernel
theorem hd_X11_picturev : yX11_picture.cls = RX11 ∧ yX11_picture.cls ≠ "java/lang/invoke/MethodHandle" ∧ yX11_picture.cls ≠ "java/lang/invoke/VarHandle" ∧ (parseMethodDescriptor yX11_picture.desc).map (fun d => d.parameters.length) = some 2 := by decide +kernel
theorem hd_X12_picturev : yX12_picture.cls = RX12 ∧ yX12_picture.cls ≠ "java/lang/invoke/MethodHandle" ∧ yX12_picture.cls ≠ "java/lang/invoke/VarHandle" ∧ (parseMethodDescriptor yX12_picture.desc).map (fun d => d.parameters.length) = some 2 := by decide +kernel
theorem hd_L_member : yL_member.cls ≠ "java/lang/invoke/MethodHandle" ∧ yL_member.cls ≠ "java/lang/invoke/VarHandle" ∧ (parseMethodDescriptor yL_member.desc).map (fun d => d.parameters.length) = some 6 := by decide +kernel
theorem hd_X12_memberv : yX12_member.cls = RX12 ∧ yX12_member.cls ≠ "java/lang/invoke/MethodHandle" ∧ yX12_member.cls ≠ "java/lang/invoke/VarHandle" ∧ (parseMethodDescriptor yX12_member.desc).map (fun d => d.parameters.length) = some 4 := by decide +kernel
theorem hd_X11_choosev : yX11_choose.cls = RX11 ∧ yX11_choose.cls ≠ "java/lang/invoke/MethodHandle" ∧ yX11_choose.cls ≠ "java/lang/invoke/VarHandle" ∧ (parseMethodDescriptor yX11_choose.desc).map (fun d => d.parameters.length) = some 3 := by decide +kernel
theorem hd_X12_choosev : yX12_choose.cls = RX12 ∧ yX12_choose.cls ≠ "java/lang/invoke/MethodHandle" ∧ yX12_choose.cls ≠ "java/lang/invoke/VarHandle" ∧ (parseMethodDescriptor yX12_choose.desc).map (fun d => d.parameters.length) = some 3 := by decide +kernel
theorem hd_L_lost : yL_lost.cls ≠ "java/lang/invoke/MethodHandle" ∧ yL_lost.cls ≠ "java/lang/invoke/VarHandle" ∧ (parseMethodDescriptor yL_lost.desc).map (fun d => d.parameters.length) = some 3 := by decide +kernel
theorem hd_X12_lostv : yX12_lost.cls = RX12 ∧ yX12_lost.cls ≠ "java/lang/invoke/MethodHandle" ∧ yX12_lost.cls ≠ "java/lang/invoke/VarHandle" ∧ (parseMethodDescriptor yX12_lost.desc).map (fun d => d.parameters.length) = some 1 := by decide +kernel
theorem hd_X11_lostThingv : yX11_lostThing.cls = RX11 ∧ yX11_lostThing.cls ≠ "java/lang/invoke/MethodHandle" ∧ yX11_lostThing.cls ≠ "java/lang/invoke/VarHandle" ∧ (parseMethodDescriptor yX11_lostThing.desc).map (fun d => d.parameters.length) = some 2 := by decide +kernel
theorem hd_X12_lostThingv : yX12_lostThing.cls = RX12 ∧ yX12_lostThing.cls ≠ "java/lang/invoke/MethodHandle" ∧ yX12_lostThing.cls ≠ "java/lang/invoke/VarHandle" ∧ (parseMethodDescriptor yX12_lostThing.desc).map (fun d => d.parameters.length) = some 2 := by decide +kernel
theorem hd_L_growth : yL_growth.cls ≠ "java/lang/invoke/MethodHandle" ∧ yL_growth.cls ≠ "java/lang/invoke/VarHandle" ∧ (parseMethodDescriptor yL_growth.desc).map (fun d => d.parameters.length) = some 5 := by decide +kernel
theorem hd_X12_growthv : yX12_growth.cls = RX12 ∧ yX12_growth.cls ≠ "java/lang/invoke/MethodHandle" ∧ yX12_growth.cls ≠ "java/lang/invoke/VarHandle" ∧ (parseMethodDescriptor yX12_growth.desc).map (fun d => d.parameters.length) = some 3 := by decide +kernel
theorem hd_X11_grownv : yX11_grown.cls = RX11 ∧ yX11_grown.cls ≠ "java/lang/invoke/MethodHandle" ∧ yX11_grown.cls ≠ "java/lang/invoke/VarHandle" ∧ (parseMethodDescriptor yX11_grown.desc).map (fun d => d.parameters.length) = some 1 := by decide +kernel
theorem hd_X12_grownv : yX12_grown.cls = RX12 ∧ yX12_grown.cls ≠ "java/lang/invoke/MethodHandle" ∧ yX12_grown.cls ≠ "java/lang/invoke/VarHandle" ∧ (parseMethodDescriptor yX12_grown.desc).map (fun d => d.parameters.length) = some 1 := by decide +kernel
theorem hd_L_like : yL_like.cls ≠ "java/lang/invoke/MethodHandle" ∧ yL_like.cls ≠ "java/lang/invoke/VarHandle" ∧ (parseMethodDescriptor yL_like.desc).map (fun d => d.parameters.length) = some 6 := by decide +kernel
theorem hd_X12_likev : yX12_like.cls = RX12 ∧ yX12_like.cls ≠ "java/lang/invoke/MethodHandle" ∧ yX12_like.cls ≠ "java/lang/invoke/VarHandle" ∧ (parseMethodDescriptor yX12_like.desc).map (fun d => d.parameters.length) = some 4 := by decide +kernel
theorem hd_L_ask : yL_ask.cls ≠ "java/lang/invoke/MethodHandle" ∧ yL_ask.cls ≠ "java/lang/invoke/VarHandle" ∧ (parseMethodDescriptor yL_ask.desc).map (fun d => d.parameters.length) = some 3 := by decide +kernel
theorem hd_X12_askv : yX12_ask.cls = RX12 ∧ yX12_ask.cls ≠ "java/lang/invoke/MethodHandle" ∧ yX12_ask.cls ≠ "java/lang/invoke/VarHandle" ∧ (parseMethodDescriptor yX12_ask.desc).map (fun d => d.parameters.length) = some 1 := by decide +kernel
theorem hd_L_answer : yL_answer.cls ≠ "java/lang/invoke/MethodHandle" ∧ yL_answer.cls ≠ "java/lang/invoke/VarHandle" ∧ (parseMethodDescriptor yL_answer.desc).map (fun d => d.parameters.length) = some 4 := by decide +kernel
theorem hd_X12_answerv : yX12_answer.cls = RX12 ∧ yX12_answer.cls ≠ "java/lang/invoke/MethodHandle" ∧ yX12_answer.cls ≠ "java/lang/invoke/VarHandle" ∧ (parseMethodDescriptor yX12_answer.desc).map (fun d => d.parameters.length) = some 2 := by decide +kernel
theorem hd_L_rules : yL_rules.cls ≠ "java/lang/invoke/MethodHandle" ∧ yL_rules.cls ≠ "java/lang/invoke/VarHandle" ∧ (parseMethodDescriptor yL_rules.desc).map (fun d => d.parameters.length) = some 3 := by decide +kernel
theorem hd_X12_rulesv : yX12_rules.cls = RX12 ∧ yX12_rules.cls ≠ "java/lang/invoke/MethodHandle" ∧ yX12_rules.cls ≠ "java/lang/invoke/VarHandle" ∧ (parseMethodDescriptor yX12_rules.desc).map (fun d => d.parameters.length) = some 1 := by decide +kernel
theorem hd_X11_factsv : yX11_facts.cls = RX11 ∧ yX11_facts.cls ≠ "java/lang/invoke/MethodHandle" ∧ yX11_facts.cls ≠ "java/lang/invoke/VarHandle" ∧ (parseMethodDescriptor yX11_facts.desc).map (fun d => d.parameters.length) = some 1 := by decide +kernel
theorem hd_X12_factsv : yX12_facts.cls = RX12 ∧ yX12_facts.cls ≠ "java/lang/invoke/MethodHandle" ∧ yX12_facts.cls ≠ "java/lang/invoke/VarHandle" ∧ (parseMethodDescriptor yX12_facts.desc).map (fun d => d.parameters.length) = some 1 := by decide +kernel
theorem hd_L_isFact : yL_isFact.cls ≠ "java/lang/invoke/MethodHandle" ∧ yL_isFact.cls ≠ "java/lang/invoke/VarHandle" ∧ (parseMethodDescriptor yL_isFact.desc).map (fun d => d.parameters.length) = some 5 := by decide +kernel
theorem hd_X12_isFactv : yX12_isFact.cls = RX12 ∧ yX12_isFact.cls ≠ "java/lang/invoke/MethodHandle" ∧ yX12_isFact.cls ≠ "java/lang/invoke/VarHandle" ∧ (parseMethodDescriptor yX12_isFact.desc).map (fun d => d.parameters.length) = some 3 := by decide +kernel
theorem hd_X11_faultv : yX11_fault.cls = RX11 ∧ yX11_fault.cls ≠ "java/lang/invoke/MethodHandle" ∧ yX11_fault.cls ≠ "java/lang/invoke/VarHandle" ∧ (parseMethodDescriptor yX11_fault.desc).map (fun d => d.parameters.length) = some 1 := by decide +kernel
theorem hd_X12_faultv : yX12_fault.cls = RX12 ∧ yX12_fault.cls ≠ "java/lang/invoke/MethodHandle" ∧ yX12_fault.cls ≠ "java/lang/invoke/VarHandle" ∧ (parseMethodDescriptor yX12_fault.desc).map (fun d => d.parameters.length) = some 1 := by decide +kernel
theorem hd_L_bytes : yL_bytes.cls ≠ "java/lang/invoke/MethodHandle" ∧ yL_bytes.cls ≠ "java/lang/invoke/VarHandle" ∧ (parseMethodDescriptor yL_bytes.desc).map (fun d => d.parameters.length) = some 3 := by decide +kernel
theorem hd_X12_bytesv : yX12_bytes.cls = RX12 ∧ yX12_bytes.cls ≠ "java/lang/invoke/MethodHandle" ∧ yX12_bytes.cls ≠ "java/lang/invoke/VarHandle" ∧ (parseMethodDescriptor yX12_bytes.desc).map (fun d => d.parameters.length) = some 1 := by decide +kernel
theorem hd_X11_letterv : yX11_letter.cls = RX11 ∧ yX11_letter.cls ≠ "java/lang/invoke/MethodHandle" ∧ yX11_letter.cls ≠ "java/lang/invoke/VarHandle" ∧ (parseMethodDescriptor yX11_letter.desc).map (fun d => d.parameters.length) = some 1 := by decide +kernel
theorem hd_X12_letterv : yX12_letter.cls = RX12 ∧ yX12_letter.cls ≠ "java/lang/invoke/MethodHandle" ∧ yX12_letter.cls ≠ "java/lang/invoke/VarHandle" ∧ (parseMethodDescriptor yX12_letter.desc).map (fun d => d.parameters.length) = some 1 := by decide +kernel
theorem hd_L_load : yL_load.cls ≠ "java/lang/invoke/MethodHandle" ∧ yL_load.cls ≠ "java/lang/invoke/VarHandle" ∧ (parseMethodDescriptor yL_load.desc).map (fun d => d.parameters.length) = some 3 := by decide +kernel
theorem hd_X12_loadv : yX12_load.cls = RX12 ∧ yX12_load.cls ≠ "java/lang/invoke/MethodHandle" ∧ yX12_load.cls ≠ "java/lang/invoke/VarHandle" ∧ (parseMethodDescriptor yX12_load.desc).map (fun d => d.parameters.length) = some 1 := by decide +kernel
theorem hd_L_keep : yL_keep.cls ≠ "java/lang/invoke/MethodHandle" ∧ yL_keep.cls ≠ "java/lang/invoke/VarHandle" ∧ (parseMethodDescriptor yL_keep.desc).map (fun d => d.parameters.length) = some 3 := by decide +kernel
theorem hd_X12_keepv : yX12_keep.cls = RX12 ∧ yX12_keep.cls ≠ "java/lang/invoke/MethodHandle" ∧ yX12_keep.cls ≠ "java/lang/invoke/VarHandle" ∧ (parseMethodDescriptor yX12_keep.desc).map (fun d => d.parameters.length) = some 1 := by decide +kernel
theorem hd_X11_reopenv : yX11_reopen.cls = RX11 ∧ yX11_reopen.cls ≠ "java/lang/invoke/MethodHandle" ∧ yX11_reopen.cls ≠ "java/lang/invoke/VarHandle" ∧ (parseMethodDescriptor yX11_reopen.desc).map (fun d => d.parameters.length) = some 1 := by decide +kernel
theorem hd_X12_reopenv : yX12_reopen.cls = RX12 ∧ yX12_reopen.cls ≠ "java/lang/invoke/MethodHandle" ∧ yX12_reopen.cls ≠ "java/lang/invoke/VarHandle" ∧ (parseMethodDescriptor yX12_reopen.desc).map (fun d => d.parameters.length) = some 1 := by decide +kernel
theorem hd_L_recall : yL_recall.cls ≠ "java/lang/invoke/MethodHandle" ∧ yL_recall.cls ≠ "java/lang/invoke/VarHandle" ∧ (parseMethodDescriptor yL_recall.desc).map (fun d => d.parameters.length) = some 4 := by decide +kernel
theorem hd_X12_recallv : yX12_recall.cls = RX12 ∧ yX12_recall.cls ≠ "java/lang/invoke/MethodHandle" ∧ yX12_recall.cls ≠ "java/lang/invoke/VarHandle" ∧ (parseMethodDescriptor yX12_recall.desc).map (fun d => d.parameters.length) = some 2 := by decide +kernel
theorem hd_X11_aboutv : yX11_about.cls = RX11 ∧ yX11_about.cls ≠ "java/lang/invoke/MethodHandle" ∧ yX11_about.cls ≠ "java/lang/invoke/VarHandle" ∧ (parseMethodDescriptor yX11_about.desc).map (fun d => d.parameters.length) = some 1 := by decide +kernel
theorem hd_X12_aboutv : yX12_about.cls = RX12 ∧ yX12_about.cls ≠ "java/lang/invoke/MethodHandle" ∧ yX12_about.cls ≠ "java/lang/invoke/VarHandle" ∧ (parseMethodDescriptor yX12_about.desc).map (fun d => d.parameters.length) = some 1 := by decide +kernel
theorem hd_X11_init : yX11_init.cls ≠ "java/lang/invoke/MethodHandle" ∧ yX11_init.cls ≠ "java/lang/invoke/VarHandle" ∧ (parseMethodDescriptor yX11_init.desc).map (fun d => d.parameters.length) = some 0 := by decide +kernel
theorem hd_X12_init : yX12_init.cls ≠ "java/lang/invoke/MethodHandle" ∧ yX12_init.cls ≠ "java/lang/invoke/VarHandle" ∧ (parseMethodDescriptor yX12_init.desc).map (fun d => d.parameters.length) = some 0 := by decide +kernel
theorem tw_X11_120_122 {rm : Room} (h1 : (["java/lang/RuntimeException", "java/lang/Exception"] : List String).length + 3 < rm.frames) (h2 : 13 * ((["java/lang/RuntimeException", "java/lang/Exception"] : List String).length + 1) + 42 ≤ rm.locals) : jTw Om RX11 rm 120 122 "java/lang/IndexOutOfBoundsException" ["java/lang/RuntimeException", "java/lang/Exception"] := ⟨by decide +kernel, by decide +kernel, om_773, om_774, ox_X11_122, by decide +kernel, by decide, by decide +kernel, h1, h2⟩
theorem tw_X11_137_139 {rm : Room} (h1 : (["java/lang/RuntimeException", "java/lang/Exception"] : List String).length + 3 < rm.frames) (h2 : 13 * ((["java/lang/RuntimeException", "java/lang/Exception"] : List String).length + 1) + 42 ≤ rm.locals) : jTw Om RX11 rm 137 139 "java/lang/IllegalStateException" ["java/lang/RuntimeException", "java/lang/Exception"] := ⟨by decide +kernel, by decide +kernel, om_779, om_780, ox_X11_139, by decide +kernel, by decide, by decide +kernel, h1, h2⟩
theorem tw_X11_127_129 {rm : Room} (h1 : (["java/lang/RuntimeException", "java/lang/Exception"] : List String).length + 3 < rm.frames) (h2 : 13 * ((["java/lang/RuntimeException", "java/lang/Exception"] : List String).length + 1) + 42 ≤ rm.locals) : jTw Om RX11 rm 127 129 "java/lang/IllegalArgumentException" ["java/lang/RuntimeException", "java/lang/Exception"] := ⟨by decide +kernel, by decide +kernel, om_789, om_790, ox_X11_129, by decide +kernel, by decide, by decide +kernel, h1, h2⟩
theorem tw_X11_222_224 {rm : Room} (h1 : (["java/lang/RuntimeException", "java/lang/Exception"] : List String).length + 3 < rm.frames) (h2 : 13 * ((["java/lang/RuntimeException", "java/lang/Exception"] : List String).length + 1) + 42 ≤ rm.locals) : jTw Om RX11 rm 222 224 "java/util/NoSuchElementException" ["java/lang/RuntimeException", "java/lang/Exception"] := ⟨by decide +kernel, by decide +kernel, om_825, om_826, ox_X11_224, by decide +kernel, by decide, by decide +kernel, h1, h2⟩
theorem ff_X9_11 : jFPF vwCl Om RX9 11 12 0 (.array .int) := ⟨RX9, TX9, 12, tyX9, rfl, oi_X9, by decide, om_1618, tyX9_ok, nmX9, rfl, rfl, by decide +kernel⟩
theorem ff_X9_15 : jFPF vwCl Om RX9 15 12 2 (.array .int) := ⟨RX9, TX9, 12, tyX9, rfl, oi_X9, by decide, om_1619, tyX9_ok, nmX9, rfl, rfl, by decide +kernel⟩
theorem ff_X9_18 : jFPF vwCl Om RX9 18 12 5 (.array .int) := ⟨RX9, TX9, 12, tyX9, rfl, oi_X9, by decide, om_1620, tyX9_ok, nmX9, rfl, rfl, by decide +kernel⟩
theorem ff_X9_21 : jFPF vwCl Om RX9 21 12 6 (.array .int) := ⟨RX9, TX9, 12, tyX9, rfl, oi_X9, by decide, om_1621, tyX9_ok, nmX9, rfl, rfl, by decide +kernel⟩
theorem ff_X9_24 : jFPF vwCl Om RX9 24 12 7 (.array .long) := ⟨RX9, TX9, 12, tyX9, rfl, oi_X9, by decide, om_1623, tyX9_ok, nmX9, rfl, rfl, by decide +kernel⟩
theorem ff_X9_28 : jFPF vwCl Om RX9 28 12 3 (.array .long) := ⟨RX9, TX9, 12, tyX9, rfl, oi_X9, by decide, om_1624, tyX9_ok, nmX9, rfl, rfl, by decide +kernel⟩
theorem ff_X11_12 : jFPF vwCl Om RX11 12 14 0 (.object "HeapWorks$Tape") := ⟨RX11, TX11, 18, tyX11, rfl, oi_X11, by decide, om_1639, tyX11_ok, nmX11, rfl, rfl, by decide +kernel⟩
theorem ff_X10_11 : jFPF vwCl Om RX10 11 13 1 (.array .long) := ⟨RX10, TX10, 18, tyX10, rfl, oi_X10, by decide, om_1643, tyX10_ok, nmX10, rfl, rfl, by decide +kernel⟩
theorem ff_X10_15 : jFPF vwCl Om RX10 15 13 2 (.array .int) := ⟨RX10, TX10, 18, tyX10, rfl, oi_X10, by decide, om_1644, tyX10_ok, nmX10, rfl, rfl, by decide +kernel⟩
theorem ff_X10_19 : jFPF vwCl Om RX10 19 13 3 (.array .int) := ⟨RX10, TX10, 18, tyX10, rfl, oi_X10, by decide, om_1645, tyX10_ok, nmX10, rfl, rfl, by decide +kernel⟩
theorem ff_X10_22 : jFPF vwCl Om RX10 22 13 4 (.array .boolean) := ⟨RX10, TX10, 18, tyX10, rfl, oi_X10, by decide, om_1647, tyX10_ok, nmX10, rfl, rfl, by decide +kernel⟩
theorem ff_X10_26 : jFPF vwCl Om RX10 26 13 5 (.array .boolean) := ⟨RX10, TX10, 18, tyX10, rfl, oi_X10, by decide, om_1648, tyX10_ok, nmX10, rfl, rfl, by decide +kernel⟩
theorem ff_X10_29 : jFPF vwCl Om RX10 29 13 6 (.array .int) := ⟨RX10, TX10, 18, tyX10, rfl, oi_X10, by decide, om_1649, tyX10_ok, nmX10, rfl, rfl, by decide +kernel⟩
theorem ff_X10_32 : jFPF vwCl Om RX10 32 13 7 (.array .int) := ⟨RX10, TX10, 18, tyX10, rfl, oi_X10, by decide, om_1650, tyX10_ok, nmX10, rfl, rfl, by decide +kernel⟩
theorem ff_X10_35 : jFPF vwCl Om RX10 35 13 8 (.array .int) := ⟨RX10, TX10, 18, tyX10, rfl, oi_X10, by decide, om_1651, tyX10_ok, nmX10, rfl, rfl, by decide +kernel⟩
theorem ff_X10_38 : jFPF vwCl Om RX10 38 13 9 (.array .int) := ⟨RX10, TX10, 18, tyX10, rfl, oi_X10, by decide, om_1652, tyX10_ok, nmX10, rfl, rfl, by decide +kernel⟩
theorem ff_X10_41 : jFPF vwCl Om RX10 41 13 10 (.array .long) := ⟨RX10, TX10, 18, tyX10, rfl, oi_X10, by decide, om_1653, tyX10_ok, nmX10, rfl, rfl, by decide +kernel⟩
theorem ff_X10_44 : jFPF vwCl Om RX10 44 13 11 (.array .int) := ⟨RX10, TX10, 18, tyX10, rfl, oi_X10, by decide, om_1654, tyX10_ok, nmX10, rfl, rfl, by decide +kernel⟩
theorem ff_X10_47 : jFPF vwCl Om RX10 47 13 12 (.array .int) := ⟨RX10, TX10, 18, tyX10, rfl, oi_X10, by decide, om_1655, tyX10_ok, nmX10, rfl, rfl, by decide +kernel⟩
theorem ff_X10_50 : jFPF vwCl Om RX10 50 13 13 (.array .boolean) := ⟨RX10, TX10, 18, tyX10, rfl, oi_X10, by decide, om_1656, tyX10_ok, nmX10, rfl, rfl, by decide +kernel⟩
theorem ff_X10_53 : jFPF vwCl Om RX10 53 13 14 (.array .int) := ⟨RX10, TX10, 18, tyX10, rfl, oi_X10, by decide, om_1657, tyX10_ok, nmX10, rfl, rfl, by decide +kernel⟩
theorem ff_X10_56 : jFPF vwCl Om RX10 56 13 15 (.array .long) := ⟨RX10, TX10, 18, tyX10, rfl, oi_X10, by decide, om_1658, tyX10_ok, nmX10, rfl, rfl, by decide +kernel⟩
theorem ff_X10_59 : jFPF vwCl Om RX10 59 13 16 (.array .int) := ⟨RX10, TX10, 18, tyX10, rfl, oi_X10, by decide, om_1659, tyX10_ok, nmX10, rfl, rfl, by decide +kernel⟩
theorem ff_X10_62 : jFPF vwCl Om RX10 62 13 17 (.array .int) := ⟨RX10, TX10, 18, tyX10, rfl, oi_X10, by decide, om_1660, tyX10_ok, nmX10, rfl, rfl, by decide +kernel⟩
theorem ff_X11_19 : jFPF vwCl Om RX11 19 14 1 (.object "HeapWorks$Types") := ⟨RX11, TX11, 18, tyX11, rfl, oi_X11, by decide, om_1664, tyX11_ok, nmX11, rfl, rfl, by decide +kernel⟩
theorem ff_X2_9 : jFPF vwCl Om RX2 9 5 0 (.object "HeapWorks$Types") := ⟨RX2, TX2, 14, tyX2, rfl, oi_X2, by decide, om_1668, tyX2_ok, nmX2, rfl, rfl, by decide +kernel⟩
theorem ff_X2_15 : jFPF vwCl Om RX2 15 5 4 (.array .int) := ⟨RX2, TX2, 14, tyX2, rfl, oi_X2, by decide, om_1669, tyX2_ok, nmX2, rfl, rfl, by decide +kernel⟩
theorem ff_X2_19 : jFPF vwCl Om RX2 19 5 5 (.array .int) := ⟨RX2, TX2, 14, tyX2, rfl, oi_X2, by decide, om_1670, tyX2_ok, nmX2, rfl, rfl, by decide +kernel⟩
theorem ff_X2_22 : jFPF vwCl Om RX2 22 5 6 (.array .int) := ⟨RX2, TX2, 14, tyX2, rfl, oi_X2, by decide, om_1671, tyX2_ok, nmX2, rfl, rfl, by decide +kernel⟩
theorem ff_X2_25 : jFPF vwCl Om RX2 25 5 7 (.array .long) := ⟨RX2, TX2, 14, tyX2, rfl, oi_X2, by decide, om_1672, tyX2_ok, nmX2, rfl, rfl, by decide +kernel⟩
theorem ff_X2_29 : jFPF vwCl Om RX2 29 5 8 (.array .boolean) := ⟨RX2, TX2, 14, tyX2, rfl, oi_X2, by decide, om_1673, tyX2_ok, nmX2, rfl, rfl, by decide +kernel⟩
theorem ff_X2_35 : jFPF vwCl Om RX2 35 5 9 (.array .long) := ⟨RX2, TX2, 14, tyX2, rfl, oi_X2, by decide, om_1674, tyX2_ok, nmX2, rfl, rfl, by decide +kernel⟩
theorem ff_X2_38 : jFPF vwCl Om RX2 38 5 10 (.array .int) := ⟨RX2, TX2, 14, tyX2, rfl, oi_X2, by decide, om_1675, tyX2_ok, nmX2, rfl, rfl, by decide +kernel⟩
theorem ff_X2_41 : jFPF vwCl Om RX2 41 5 12 (.array .int) := ⟨RX2, TX2, 14, tyX2, rfl, oi_X2, by decide, om_1676, tyX2_ok, nmX2, rfl, rfl, by decide +kernel⟩
theorem ff_X2_44 : jFPF vwCl Om RX2 44 5 13 (.array .int) := ⟨RX2, TX2, 14, tyX2, rfl, oi_X2, by decide, om_1677, tyX2_ok, nmX2, rfl, rfl, by decide +kernel⟩
theorem ff_X11_28 : jFPF vwCl Om RX11 28 14 2 (.object "HeapWorks$Heap") := ⟨RX11, TX11, 18, tyX11, rfl, oi_X11, by decide, om_1681, tyX11_ok, nmX11, rfl, rfl, by decide +kernel⟩
theorem ff_X3_9 : jFPF vwCl Om RX3 9 6 0 (.object "HeapWorks$Types") := ⟨RX3, TX3, 13, tyX3, rfl, oi_X3, by decide, om_1685, tyX3_ok, nmX3, rfl, rfl, by decide +kernel⟩
theorem ff_X3_15 : jFPF vwCl Om RX3 15 6 2 (.array .int) := ⟨RX3, TX3, 13, tyX3, rfl, oi_X3, by decide, om_1686, tyX3_ok, nmX3, rfl, rfl, by decide +kernel⟩
theorem ff_X3_19 : jFPF vwCl Om RX3 19 6 3 (.array .int) := ⟨RX3, TX3, 13, tyX3, rfl, oi_X3, by decide, om_1687, tyX3_ok, nmX3, rfl, rfl, by decide +kernel⟩
theorem ff_X3_22 : jFPF vwCl Om RX3 22 6 4 (.array .long) := ⟨RX3, TX3, 13, tyX3, rfl, oi_X3, by decide, om_1688, tyX3_ok, nmX3, rfl, rfl, by decide +kernel⟩
theorem ff_X3_26 : jFPF vwCl Om RX3 26 6 8 (.array .int) := ⟨RX3, TX3, 13, tyX3, rfl, oi_X3, by decide, om_1689, tyX3_ok, nmX3, rfl, rfl, by decide +kernel⟩
theorem ff_X3_29 : jFPF vwCl Om RX3 29 6 9 (.array .int) := ⟨RX3, TX3, 13, tyX3, rfl, oi_X3, by decide, om_1690, tyX3_ok, nmX3, rfl, rfl, by decide +kernel⟩
theorem ff_X3_32 : jFPF vwCl Om RX3 32 6 10 (.array .int) := ⟨RX3, TX3, 13, tyX3, rfl, oi_X3, by decide, om_1691, tyX3_ok, nmX3, rfl, rfl, by decide +kernel⟩
theorem ff_X3_35 : jFPF vwCl Om RX3 35 6 11 (.array .int) := ⟨RX3, TX3, 13, tyX3, rfl, oi_X3, by decide, om_1692, tyX3_ok, nmX3, rfl, rfl, by decide +kernel⟩
theorem ff_X3_38 : jFPF vwCl Om RX3 38 6 12 (.array .long) := ⟨RX3, TX3, 13, tyX3, rfl, oi_X3, by decide, om_1693, tyX3_ok, nmX3, rfl, rfl, by decide +kernel⟩
theorem ff_X11_35 : jFPF vwCl Om RX11 35 14 3 (.object "HeapWorks$Journal") := ⟨RX11, TX11, 18, tyX11, rfl, oi_X11, by decide, om_1697, tyX11_ok, nmX11, rfl, rfl, by decide +kernel⟩
theorem ff_X11_41 : jFPF vwCl Om RX11 41 14 4 (.array (.object "HeapWorks$Picture")) := ⟨RX11, TX11, 18, tyX11, rfl, oi_X11, by decide, om_1699, tyX11_ok, nmX11, rfl, rfl, by decide +kernel⟩
theorem ff_X5_11 : jFPF vwCl Om RX5 11 8 1 (.array .int) := ⟨RX5, TX5, 21, tyX5, rfl, oi_X5, by decide, om_1703, tyX5_ok, nmX5, rfl, rfl, by decide +kernel⟩
theorem ff_X5_15 : jFPF vwCl Om RX5 15 8 2 (.array .int) := ⟨RX5, TX5, 21, tyX5, rfl, oi_X5, by decide, om_1704, tyX5_ok, nmX5, rfl, rfl, by decide +kernel⟩
theorem ff_X5_18 : jFPF vwCl Om RX5 18 8 3 (.array .int) := ⟨RX5, TX5, 21, tyX5, rfl, oi_X5, by decide, om_1705, tyX5_ok, nmX5, rfl, rfl, by decide +kernel⟩
theorem ff_X5_21 : jFPF vwCl Om RX5 21 8 4 (.array .int) := ⟨RX5, TX5, 21, tyX5, rfl, oi_X5, by decide, om_1706, tyX5_ok, nmX5, rfl, rfl, by decide +kernel⟩
theorem ff_X5_24 : jFPF vwCl Om RX5 24 8 5 (.array .int) := ⟨RX5, TX5, 21, tyX5, rfl, oi_X5, by decide, om_1707, tyX5_ok, nmX5, rfl, rfl, by decide +kernel⟩
theorem ff_X5_27 : jFPF vwCl Om RX5 27 8 6 (.array .int) := ⟨RX5, TX5, 21, tyX5, rfl, oi_X5, by decide, om_1708, tyX5_ok, nmX5, rfl, rfl, by decide +kernel⟩
theorem ff_X5_30 : jFPF vwCl Om RX5 30 8 7 (.array .int) := ⟨RX5, TX5, 21, tyX5, rfl, oi_X5, by decide, om_1709, tyX5_ok, nmX5, rfl, rfl, by decide +kernel⟩
theorem ff_X5_35 : jFPF vwCl Om RX5 35 8 8 (.array .int) := ⟨RX5, TX5, 21, tyX5, rfl, oi_X5, by decide, om_1710, tyX5_ok, nmX5, rfl, rfl, by decide +kernel⟩
theorem ff_X5_44 : jFPF vwCl Om RX5 44 8 9 (.array .long) := ⟨RX5, TX5, 21, tyX5, rfl, oi_X5, by decide, om_1712, tyX5_ok, nmX5, rfl, rfl, by decide +kernel⟩
theorem ff_X5_48 : jFPF vwCl Om RX5 48 8 10 (.array .boolean) := ⟨RX5, TX5, 21, tyX5, rfl, oi_X5, by decide, om_1713, tyX5_ok, nmX5, rfl, rfl, by decide +kernel⟩
theorem ff_X5_52 : jFPF vwCl Om RX5 52 8 12 (.array .int) := ⟨RX5, TX5, 21, tyX5, rfl, oi_X5, by decide, om_1714, tyX5_ok, nmX5, rfl, rfl, by decide +kernel⟩
theorem ff_X5_55 : jFPF vwCl Om RX5 55 8 13 (.array .int) := ⟨RX5, TX5, 21, tyX5, rfl, oi_X5, by decide, om_1715, tyX5_ok, nmX5, rfl, rfl, by decide +kernel⟩
theorem ff_X5_58 : jFPF vwCl Om RX5 58 8 14 (.array .boolean) := ⟨RX5, TX5, 21, tyX5, rfl, oi_X5, by decide, om_1716, tyX5_ok, nmX5, rfl, rfl, by decide +kernel⟩
theorem ff_X5_61 : jFPF vwCl Om RX5 61 8 15 (.array .int) := ⟨RX5, TX5, 21, tyX5, rfl, oi_X5, by decide, om_1717, tyX5_ok, nmX5, rfl, rfl, by decide +kernel⟩
theorem ff_X5_64 : jFPF vwCl Om RX5 64 8 17 (.array .int) := ⟨RX5, TX5, 21, tyX5, rfl, oi_X5, by decide, om_1718, tyX5_ok, nmX5, rfl, rfl, by decide +kernel⟩
theorem ff_X5_67 : jFPF vwCl Om RX5 67 8 18 (.array .int) := ⟨RX5, TX5, 21, tyX5, rfl, oi_X5, by decide, om_1719, tyX5_ok, nmX5, rfl, rfl, by decide +kernel⟩
theorem ff_X5_70 : jFPF vwCl Om RX5 70 8 19 (.array .int) := ⟨RX5, TX5, 21, tyX5, rfl, oi_X5, by decide, om_1720, tyX5_ok, nmX5, rfl, rfl, by decide +kernel⟩
theorem ff_X8_9 : jFPF vwCl Om RX8 9 11 0 (.object "HeapWorks$Types") := ⟨RX8, TX8, 18, tyX8, rfl, oi_X8, by decide, om_1724, tyX8_ok, nmX8, rfl, rfl, by decide +kernel⟩
theorem ff_X8_17 : jFPF vwCl Om RX8 17 11 2 (.array .int) := ⟨RX8, TX8, 18, tyX8, rfl, oi_X8, by decide, om_1725, tyX8_ok, nmX8, rfl, rfl, by decide +kernel⟩
theorem ff_X8_21 : jFPF vwCl Om RX8 21 11 3 (.array .int) := ⟨RX8, TX8, 18, tyX8, rfl, oi_X8, by decide, om_1726, tyX8_ok, nmX8, rfl, rfl, by decide +kernel⟩
theorem ff_X8_24 : jFPF vwCl Om RX8 24 11 4 (.array .int) := ⟨RX8, TX8, 18, tyX8, rfl, oi_X8, by decide, om_1727, tyX8_ok, nmX8, rfl, rfl, by decide +kernel⟩
theorem ff_X8_27 : jFPF vwCl Om RX8 27 11 5 (.array .int) := ⟨RX8, TX8, 18, tyX8, rfl, oi_X8, by decide, om_1728, tyX8_ok, nmX8, rfl, rfl, by decide +kernel⟩
theorem ff_X8_30 : jFPF vwCl Om RX8 30 11 6 (.array .int) := ⟨RX8, TX8, 18, tyX8, rfl, oi_X8, by decide, om_1729, tyX8_ok, nmX8, rfl, rfl, by decide +kernel⟩
theorem ff_X8_33 : jFPF vwCl Om RX8 33 11 7 (.array .int) := ⟨RX8, TX8, 18, tyX8, rfl, oi_X8, by decide, om_1730, tyX8_ok, nmX8, rfl, rfl, by decide +kernel⟩
theorem ff_X8_36 : jFPF vwCl Om RX8 36 11 8 (.array .int) := ⟨RX8, TX8, 18, tyX8, rfl, oi_X8, by decide, om_1731, tyX8_ok, nmX8, rfl, rfl, by decide +kernel⟩
theorem ff_X8_39 : jFPF vwCl Om RX8 39 11 10 (.array .int) := ⟨RX8, TX8, 18, tyX8, rfl, oi_X8, by decide, om_1732, tyX8_ok, nmX8, rfl, rfl, by decide +kernel⟩
theorem ff_X8_42 : jFPF vwCl Om RX8 42 11 12 (.array .int) := ⟨RX8, TX8, 18, tyX8, rfl, oi_X8, by decide, om_1733, tyX8_ok, nmX8, rfl, rfl, by decide +kernel⟩
theorem ff_X8_45 : jFPF vwCl Om RX8 45 11 13 (.array .int) := ⟨RX8, TX8, 18, tyX8, rfl, oi_X8, by decide, om_1734, tyX8_ok, nmX8, rfl, rfl, by decide +kernel⟩
theorem ff_X8_48 : jFPF vwCl Om RX8 48 11 14 (.array .int) := ⟨RX8, TX8, 18, tyX8, rfl, oi_X8, by decide, om_1735, tyX8_ok, nmX8, rfl, rfl, by decide +kernel⟩
theorem ff_X8_51 : jFPF vwCl Om RX8 51 11 15 (.array .int) := ⟨RX8, TX8, 18, tyX8, rfl, oi_X8, by decide, om_1736, tyX8_ok, nmX8, rfl, rfl, by decide +kernel⟩
theorem ff_X8_54 : jFPF vwCl Om RX8 54 11 16 (.array .int) := ⟨RX8, TX8, 18, tyX8, rfl, oi_X8, by decide, om_1737, tyX8_ok, nmX8, rfl, rfl, by decide +kernel⟩
theorem ff_X8_57 : jFPF vwCl Om RX8 57 11 17 (.array .int) := ⟨RX8, TX8, 18, tyX8, rfl, oi_X8, by decide, om_1738, tyX8_ok, nmX8, rfl, rfl, by decide +kernel⟩
theorem ff_X5_78 : jFPF vwCl Om RX5 78 8 20 (.object "HeapWorks$Shape") := ⟨RX5, TX5, 21, tyX5, rfl, oi_X5, by decide, om_1742, tyX5_ok, nmX5, rfl, rfl, by decide +kernel⟩
theorem ff_X6_9 : jFPF vwCl Om RX6 9 9 0 (.object "HeapWorks$Tape") := ⟨RX6, TX6, 19, tyX6, rfl, oi_X6, by decide, om_1750, tyX6_ok, nmX6, rfl, rfl, by decide +kernel⟩
theorem ff_X6_15 : jFPF vwCl Om RX6 15 9 1 (.array .int) := ⟨RX6, TX6, 19, tyX6, rfl, oi_X6, by decide, om_1751, tyX6_ok, nmX6, rfl, rfl, by decide +kernel⟩
theorem ff_X6_19 : jFPF vwCl Om RX6 19 9 2 (.array .int) := ⟨RX6, TX6, 19, tyX6, rfl, oi_X6, by decide, om_1752, tyX6_ok, nmX6, rfl, rfl, by decide +kernel⟩
theorem ff_X6_22 : jFPF vwCl Om RX6 22 9 3 (.array .int) := ⟨RX6, TX6, 19, tyX6, rfl, oi_X6, by decide, om_1753, tyX6_ok, nmX6, rfl, rfl, by decide +kernel⟩
theorem ff_X6_25 : jFPF vwCl Om RX6 25 9 4 (.array .long) := ⟨RX6, TX6, 19, tyX6, rfl, oi_X6, by decide, om_1754, tyX6_ok, nmX6, rfl, rfl, by decide +kernel⟩
theorem ff_X6_29 : jFPF vwCl Om RX6 29 9 14 (.array .long) := ⟨RX6, TX6, 19, tyX6, rfl, oi_X6, by decide, om_1755, tyX6_ok, nmX6, rfl, rfl, by decide +kernel⟩
theorem ff_X6_32 : jFPF vwCl Om RX6 32 9 15 (.array .int) := ⟨RX6, TX6, 19, tyX6, rfl, oi_X6, by decide, om_1756, tyX6_ok, nmX6, rfl, rfl, by decide +kernel⟩
theorem ff_X6_35 : jFPF vwCl Om RX6 35 9 17 (.array .int) := ⟨RX6, TX6, 19, tyX6, rfl, oi_X6, by decide, om_1757, tyX6_ok, nmX6, rfl, rfl, by decide +kernel⟩
theorem ff_X11_55 : jFPF vwCl Om RX11 55 14 6 (.object "HeapWorks$Program") := ⟨RX11, TX11, 18, tyX11, rfl, oi_X11, by decide, om_1761, tyX11_ok, nmX11, rfl, rfl, by decide +kernel⟩
theorem ff_X4_11 : jFPF vwCl Om RX4 11 7 0 (.object "HeapWorks$Types") := ⟨RX4, TX4, 21, tyX4, rfl, oi_X4, by decide, om_1765, tyX4_ok, nmX4, rfl, rfl, by decide +kernel⟩
theorem ff_X4_19 : jFPF vwCl Om RX4 19 7 4 (.array .int) := ⟨RX4, TX4, 21, tyX4, rfl, oi_X4, by decide, om_1766, tyX4_ok, nmX4, rfl, rfl, by decide +kernel⟩
theorem ff_X4_23 : jFPF vwCl Om RX4 23 7 5 (.array .long) := ⟨RX4, TX4, 21, tyX4, rfl, oi_X4, by decide, om_1767, tyX4_ok, nmX4, rfl, rfl, by decide +kernel⟩
theorem ff_X4_27 : jFPF vwCl Om RX4 27 7 7 (.array .int) := ⟨RX4, TX4, 21, tyX4, rfl, oi_X4, by decide, om_1768, tyX4_ok, nmX4, rfl, rfl, by decide +kernel⟩
theorem ff_X4_30 : jFPF vwCl Om RX4 30 7 8 (.array .int) := ⟨RX4, TX4, 21, tyX4, rfl, oi_X4, by decide, om_1769, tyX4_ok, nmX4, rfl, rfl, by decide +kernel⟩
theorem ff_X4_33 : jFPF vwCl Om RX4 33 7 9 (.array .int) := ⟨RX4, TX4, 21, tyX4, rfl, oi_X4, by decide, om_1770, tyX4_ok, nmX4, rfl, rfl, by decide +kernel⟩
theorem ff_X4_36 : jFPF vwCl Om RX4 36 7 10 (.array .int) := ⟨RX4, TX4, 21, tyX4, rfl, oi_X4, by decide, om_1771, tyX4_ok, nmX4, rfl, rfl, by decide +kernel⟩
theorem ff_X4_39 : jFPF vwCl Om RX4 39 7 11 (.array .int) := ⟨RX4, TX4, 21, tyX4, rfl, oi_X4, by decide, om_1772, tyX4_ok, nmX4, rfl, rfl, by decide +kernel⟩
theorem ff_X4_42 : jFPF vwCl Om RX4 42 7 12 (.array .long) := ⟨RX4, TX4, 21, tyX4, rfl, oi_X4, by decide, om_1773, tyX4_ok, nmX4, rfl, rfl, by decide +kernel⟩
theorem ff_X4_45 : jFPF vwCl Om RX4 45 7 13 (.array .boolean) := ⟨RX4, TX4, 21, tyX4, rfl, oi_X4, by decide, om_1774, tyX4_ok, nmX4, rfl, rfl, by decide +kernel⟩
theorem ff_X4_49 : jFPF vwCl Om RX4 49 7 14 (.array .int) := ⟨RX4, TX4, 21, tyX4, rfl, oi_X4, by decide, om_1775, tyX4_ok, nmX4, rfl, rfl, by decide +kernel⟩
theorem ff_X4_52 : jFPF vwCl Om RX4 52 7 15 (.array .int) := ⟨RX4, TX4, 21, tyX4, rfl, oi_X4, by decide, om_1776, tyX4_ok, nmX4, rfl, rfl, by decide +kernel⟩
theorem ff_X4_55 : jFPF vwCl Om RX4 55 7 16 (.array .int) := ⟨RX4, TX4, 21, tyX4, rfl, oi_X4, by decide, om_1777, tyX4_ok, nmX4, rfl, rfl, by decide +kernel⟩
theorem ff_X4_58 : jFPF vwCl Om RX4 58 7 17 (.array .int) := ⟨RX4, TX4, 21, tyX4, rfl, oi_X4, by decide, om_1778, tyX4_ok, nmX4, rfl, rfl, by decide +kernel⟩
theorem ff_X4_61 : jFPF vwCl Om RX4 61 7 18 (.array .int) := ⟨RX4, TX4, 21, tyX4, rfl, oi_X4, by decide, om_1779, tyX4_ok, nmX4, rfl, rfl, by decide +kernel⟩
theorem ff_X4_64 : jFPF vwCl Om RX4 64 7 19 (.array .long) := ⟨RX4, TX4, 21, tyX4, rfl, oi_X4, by decide, om_1780, tyX4_ok, nmX4, rfl, rfl, by decide +kernel⟩
theorem ff_X11_62 : jFPF vwCl Om RX11 62 14 7 (.object "HeapWorks$Machine") := ⟨RX11, TX11, 18, tyX11, rfl, oi_X11, by decide, om_1784, tyX11_ok, nmX11, rfl, rfl, by decide +kernel⟩
theorem ff_X11_66 : jFPF vwCl Om RX11 66 14 8 (.array (.object "HeapWorks$Program")) := ⟨RX11, TX11, 18, tyX11, rfl, oi_X11, by decide, om_1786, tyX11_ok, nmX11, rfl, rfl, by decide +kernel⟩
theorem ff_X11_70 : jFPF vwCl Om RX11 70 14 9 (.array .int) := ⟨RX11, TX11, 18, tyX11, rfl, oi_X11, by decide, om_1787, tyX11_ok, nmX11, rfl, rfl, by decide +kernel⟩
theorem ff_X7_9 : jFPF vwCl Om RX7 9 10 0 (.object "HeapWorks$Tape") := ⟨RX7, TX7, 21, tyX7, rfl, oi_X7, by decide, om_1791, tyX7_ok, nmX7, rfl, rfl, by decide +kernel⟩
theorem ff_X7_23 : jFPF vwCl Om RX7 23 10 1 .long := ⟨RX7, TX7, 21, tyX7, rfl, oi_X7, by decide, om_1795, tyX7_ok, nmX7, rfl, rfl, by decide +kernel⟩
theorem ff_X7_29 : jFPF vwCl Om RX7 29 10 2 .long := ⟨RX7, TX7, 21, tyX7, rfl, oi_X7, by decide, om_1796, tyX7_ok, nmX7, rfl, rfl, by decide +kernel⟩
theorem ff_X7_32 : jFPF vwCl Om RX7 32 10 4 (.array .int) := ⟨RX7, TX7, 21, tyX7, rfl, oi_X7, by decide, om_1797, tyX7_ok, nmX7, rfl, rfl, by decide +kernel⟩
theorem ff_X7_36 : jFPF vwCl Om RX7 36 10 5 (.array .int) := ⟨RX7, TX7, 21, tyX7, rfl, oi_X7, by decide, om_1798, tyX7_ok, nmX7, rfl, rfl, by decide +kernel⟩
theorem ff_X7_39 : jFPF vwCl Om RX7 39 10 6 (.array .int) := ⟨RX7, TX7, 21, tyX7, rfl, oi_X7, by decide, om_1799, tyX7_ok, nmX7, rfl, rfl, by decide +kernel⟩
theorem ff_X7_42 : jFPF vwCl Om RX7 42 10 7 (.array .int) := ⟨RX7, TX7, 21, tyX7, rfl, oi_X7, by decide, om_1800, tyX7_ok, nmX7, rfl, rfl, by decide +kernel⟩
theorem ff_X7_45 : jFPF vwCl Om RX7 45 10 8 (.array .int) := ⟨RX7, TX7, 21, tyX7, rfl, oi_X7, by decide, om_1801, tyX7_ok, nmX7, rfl, rfl, by decide +kernel⟩
theorem ff_X7_48 : jFPF vwCl Om RX7 48 10 9 (.array .int) := ⟨RX7, TX7, 21, tyX7, rfl, oi_X7, by decide, om_1802, tyX7_ok, nmX7, rfl, rfl, by decide +kernel⟩
theorem ff_X7_51 : jFPF vwCl Om RX7 51 10 10 (.array .int) := ⟨RX7, TX7, 21, tyX7, rfl, oi_X7, by decide, om_1803, tyX7_ok, nmX7, rfl, rfl, by decide +kernel⟩
theorem ff_X7_54 : jFPF vwCl Om RX7 54 10 11 (.array .int) := ⟨RX7, TX7, 21, tyX7, rfl, oi_X7, by decide, om_1804, tyX7_ok, nmX7, rfl, rfl, by decide +kernel⟩
theorem ff_X7_57 : jFPF vwCl Om RX7 57 10 12 (.array .long) := ⟨RX7, TX7, 21, tyX7, rfl, oi_X7, by decide, om_1805, tyX7_ok, nmX7, rfl, rfl, by decide +kernel⟩
theorem ff_X7_61 : jFPF vwCl Om RX7 61 10 13 (.array .long) := ⟨RX7, TX7, 21, tyX7, rfl, oi_X7, by decide, om_1806, tyX7_ok, nmX7, rfl, rfl, by decide +kernel⟩
theorem ff_X7_64 : jFPF vwCl Om RX7 64 10 17 (.array .long) := ⟨RX7, TX7, 21, tyX7, rfl, oi_X7, by decide, om_1807, tyX7_ok, nmX7, rfl, rfl, by decide +kernel⟩
theorem ff_X7_67 : jFPF vwCl Om RX7 67 10 18 (.array .int) := ⟨RX7, TX7, 21, tyX7, rfl, oi_X7, by decide, om_1808, tyX7_ok, nmX7, rfl, rfl, by decide +kernel⟩
theorem ff_X11_77 : jFPF vwCl Om RX11 77 14 11 (.object "HeapWorks$RuleText") := ⟨RX11, TX11, 18, tyX11, rfl, oi_X11, by decide, om_1812, tyX11_ok, nmX11, rfl, rfl, by decide +kernel⟩
theorem ff_X1_9 : jFPF vwCl Om RX1 9 4 0 (.object "HeapWorks$Types") := ⟨RX1, TX1, 10, tyX1, rfl, oi_X1, by decide, om_1816, tyX1_ok, nmX1, rfl, rfl, by decide +kernel⟩
theorem ff_X1_15 : jFPF vwCl Om RX1 15 4 3 (.array .long) := ⟨RX1, TX1, 10, tyX1, rfl, oi_X1, by decide, om_1817, tyX1_ok, nmX1, rfl, rfl, by decide +kernel⟩
theorem ff_X1_19 : jFPF vwCl Om RX1 19 4 4 (.array .long) := ⟨RX1, TX1, 10, tyX1, rfl, oi_X1, by decide, om_1818, tyX1_ok, nmX1, rfl, rfl, by decide +kernel⟩
theorem ff_X1_22 : jFPF vwCl Om RX1 22 4 5 (.array .long) := ⟨RX1, TX1, 10, tyX1, rfl, oi_X1, by decide, om_1819, tyX1_ok, nmX1, rfl, rfl, by decide +kernel⟩
theorem ff_X1_27 : jFPF vwCl Om RX1 27 4 6 (.array .long) := ⟨RX1, TX1, 10, tyX1, rfl, oi_X1, by decide, om_1820, tyX1_ok, nmX1, rfl, rfl, by decide +kernel⟩
theorem ff_X1_30 : jFPF vwCl Om RX1 30 4 7 (.array .int) := ⟨RX1, TX1, 10, tyX1, rfl, oi_X1, by decide, om_1821, tyX1_ok, nmX1, rfl, rfl, by decide +kernel⟩
theorem ff_X11_84 : jFPF vwCl Om RX11 84 14 12 (.object "HeapWorks$FactBook") := ⟨RX11, TX11, 18, tyX11, rfl, oi_X11, by decide, om_1825, tyX11_ok, nmX11, rfl, rfl, by decide +kernel⟩
theorem ff_X0_11 : jFPF vwCl Om RX0 11 3 0 (.object "HeapWorks$Types") := ⟨RX0, TX0, 15, tyX0, rfl, oi_X0, by decide, om_1829, tyX0_ok, nmX0, rfl, rfl, by decide +kernel⟩
theorem ff_X0_19 : jFPF vwCl Om RX0 19 3 1 (.array .int) := ⟨RX0, TX0, 15, tyX0, rfl, oi_X0, by decide, om_1830, tyX0_ok, nmX0, rfl, rfl, by decide +kernel⟩
theorem ff_X0_23 : jFPF vwCl Om RX0 23 3 3 (.array .int) := ⟨RX0, TX0, 15, tyX0, rfl, oi_X0, by decide, om_1831, tyX0_ok, nmX0, rfl, rfl, by decide +kernel⟩
theorem ff_X0_29 : jFPF vwCl Om RX0 29 3 11 (.array .int) := ⟨RX0, TX0, 15, tyX0, rfl, oi_X0, by decide, om_1833, tyX0_ok, nmX0, rfl, rfl, by decide +kernel⟩
theorem ff_X0_32 : jFPF vwCl Om RX0 32 3 12 (.array .int) := ⟨RX0, TX0, 15, tyX0, rfl, oi_X0, by decide, om_1834, tyX0_ok, nmX0, rfl, rfl, by decide +kernel⟩
theorem ff_X11_91 : jFPF vwCl Om RX11 91 14 13 (.object "HeapWorks$Archive") := ⟨RX11, TX11, 18, tyX11, rfl, oi_X11, by decide, om_1838, tyX11_ok, nmX11, rfl, rfl, by decide +kernel⟩
theorem ff_X11_95 : jFPF vwCl Om RX11 95 14 14 (.array .int) := ⟨RX11, TX11, 18, tyX11, rfl, oi_X11, by decide, om_1839, tyX11_ok, nmX11, rfl, rfl, by decide +kernel⟩
theorem ff_X12_7 : jFPF vwCl Om RX12 7 15 1 (.array .byte) := ⟨RX12, TX12, 150, tyX12, rfl, oi_X12, by decide, om_1843, tyX12_ok, nmX12, rfl, rfl, by decide +kernel⟩
theorem ff_X12_13 : jFPF vwCl Om RX12 13 15 2 (.array .byte) := ⟨RX12, TX12, 150, tyX12, rfl, oi_X12, by decide, om_1844, tyX12_ok, nmX12, rfl, rfl, by decide +kernel⟩
theorem ff_X12_74 : jFPF vwCl Om RX12 74 15 4 (.array .long) := ⟨RX12, TX12, 150, tyX12, rfl, oi_X12, by decide, om_1874, tyX12_ok, nmX12, rfl, rfl, by decide +kernel⟩
theorem ff_X12_78 : jFPF vwCl Om RX12 78 15 5 (.array .long) := ⟨RX12, TX12, 150, tyX12, rfl, oi_X12, by decide, om_1875, tyX12_ok, nmX12, rfl, rfl, by decide +kernel⟩
theorem ff_X12_81 : jFPF vwCl Om RX12 81 15 6 (.array .long) := ⟨RX12, TX12, 150, tyX12, rfl, oi_X12, by decide, om_1876, tyX12_ok, nmX12, rfl, rfl, by decide +kernel⟩
theorem ff_X12_84 : jFPF vwCl Om RX12 84 15 7 (.array .long) := ⟨RX12, TX12, 150, tyX12, rfl, oi_X12, by decide, om_1877, tyX12_ok, nmX12, rfl, rfl, by decide +kernel⟩
theorem ff_X12_87 : jFPF vwCl Om RX12 87 15 8 (.array .int) := ⟨RX12, TX12, 150, tyX12, rfl, oi_X12, by decide, om_1878, tyX12_ok, nmX12, rfl, rfl, by decide +kernel⟩
theorem ff_X12_91 : jFPF vwCl Om RX12 91 15 9 (.array .int) := ⟨RX12, TX12, 150, tyX12, rfl, oi_X12, by decide, om_1879, tyX12_ok, nmX12, rfl, rfl, by decide +kernel⟩
theorem ff_X12_94 : jFPF vwCl Om RX12 94 15 10 (.array .int) := ⟨RX12, TX12, 150, tyX12, rfl, oi_X12, by decide, om_1880, tyX12_ok, nmX12, rfl, rfl, by decide +kernel⟩
theorem ff_X12_97 : jFPF vwCl Om RX12 97 15 11 (.array .int) := ⟨RX12, TX12, 150, tyX12, rfl, oi_X12, by decide, om_1881, tyX12_ok, nmX12, rfl, rfl, by decide +kernel⟩
theorem ff_X12_100 : jFPF vwCl Om RX12 100 15 12 (.array .int) := ⟨RX12, TX12, 150, tyX12, rfl, oi_X12, by decide, om_1882, tyX12_ok, nmX12, rfl, rfl, by decide +kernel⟩
theorem ff_X12_103 : jFPF vwCl Om RX12 103 15 13 (.array .int) := ⟨RX12, TX12, 150, tyX12, rfl, oi_X12, by decide, om_1883, tyX12_ok, nmX12, rfl, rfl, by decide +kernel⟩
theorem ff_X12_106 : jFPF vwCl Om RX12 106 15 14 (.array .int) := ⟨RX12, TX12, 150, tyX12, rfl, oi_X12, by decide, om_1884, tyX12_ok, nmX12, rfl, rfl, by decide +kernel⟩
theorem ff_X12_109 : jFPF vwCl Om RX12 109 15 15 (.array .int) := ⟨RX12, TX12, 150, tyX12, rfl, oi_X12, by decide, om_1885, tyX12_ok, nmX12, rfl, rfl, by decide +kernel⟩
theorem ff_X12_112 : jFPF vwCl Om RX12 112 15 16 (.array .int) := ⟨RX12, TX12, 150, tyX12, rfl, oi_X12, by decide, om_1886, tyX12_ok, nmX12, rfl, rfl, by decide +kernel⟩
theorem ff_X12_115 : jFPF vwCl Om RX12 115 15 17 (.array .boolean) := ⟨RX12, TX12, 150, tyX12, rfl, oi_X12, by decide, om_1887, tyX12_ok, nmX12, rfl, rfl, by decide +kernel⟩
theorem ff_X12_119 : jFPF vwCl Om RX12 119 15 18 (.array .boolean) := ⟨RX12, TX12, 150, tyX12, rfl, oi_X12, by decide, om_1888, tyX12_ok, nmX12, rfl, rfl, by decide +kernel⟩
theorem ff_X12_122 : jFPF vwCl Om RX12 122 15 19 (.array .boolean) := ⟨RX12, TX12, 150, tyX12, rfl, oi_X12, by decide, om_1889, tyX12_ok, nmX12, rfl, rfl, by decide +kernel⟩
theorem ff_X12_125 : jFPF vwCl Om RX12 125 15 21 (.array .int) := ⟨RX12, TX12, 150, tyX12, rfl, oi_X12, by decide, om_1890, tyX12_ok, nmX12, rfl, rfl, by decide +kernel⟩
theorem ff_X12_128 : jFPF vwCl Om RX12 128 15 22 (.array .int) := ⟨RX12, TX12, 150, tyX12, rfl, oi_X12, by decide, om_1891, tyX12_ok, nmX12, rfl, rfl, by decide +kernel⟩
theorem ff_X12_131 : jFPF vwCl Om RX12 131 15 23 (.array .int) := ⟨RX12, TX12, 150, tyX12, rfl, oi_X12, by decide, om_1892, tyX12_ok, nmX12, rfl, rfl, by decide +kernel⟩
theorem ff_X12_134 : jFPF vwCl Om RX12 134 15 24 (.array .boolean) := ⟨RX12, TX12, 150, tyX12, rfl, oi_X12, by decide, om_1893, tyX12_ok, nmX12, rfl, rfl, by decide +kernel⟩
theorem ff_X12_138 : jFPF vwCl Om RX12 138 15 25 (.array .long) := ⟨RX12, TX12, 150, tyX12, rfl, oi_X12, by decide, om_1895, tyX12_ok, nmX12, rfl, rfl, by decide +kernel⟩
theorem ff_X12_141 : jFPF vwCl Om RX12 141 15 30 (.array .int) := ⟨RX12, TX12, 150, tyX12, rfl, oi_X12, by decide, om_1896, tyX12_ok, nmX12, rfl, rfl, by decide +kernel⟩
theorem ff_X12_144 : jFPF vwCl Om RX12 144 15 32 (.array .int) := ⟨RX12, TX12, 150, tyX12, rfl, oi_X12, by decide, om_1897, tyX12_ok, nmX12, rfl, rfl, by decide +kernel⟩
theorem ff_X12_147 : jFPF vwCl Om RX12 147 15 33 (.array .int) := ⟨RX12, TX12, 150, tyX12, rfl, oi_X12, by decide, om_1898, tyX12_ok, nmX12, rfl, rfl, by decide +kernel⟩
theorem ff_X12_150 : jFPF vwCl Om RX12 150 15 34 (.array .int) := ⟨RX12, TX12, 150, tyX12, rfl, oi_X12, by decide, om_1899, tyX12_ok, nmX12, rfl, rfl, by decide +kernel⟩
theorem ff_X12_153 : jFPF vwCl Om RX12 153 15 35 (.array .long) := ⟨RX12, TX12, 150, tyX12, rfl, oi_X12, by decide, om_1900, tyX12_ok, nmX12, rfl, rfl, by decide +kernel⟩
theorem ff_X12_156 : jFPF vwCl Om RX12 156 15 37 (.array .int) := ⟨RX12, TX12, 150, tyX12, rfl, oi_X12, by decide, om_1901, tyX12_ok, nmX12, rfl, rfl, by decide +kernel⟩
theorem ff_X12_159 : jFPF vwCl Om RX12 159 15 38 (.array .int) := ⟨RX12, TX12, 150, tyX12, rfl, oi_X12, by decide, om_1902, tyX12_ok, nmX12, rfl, rfl, by decide +kernel⟩
theorem ff_X12_162 : jFPF vwCl Om RX12 162 15 39 (.array .int) := ⟨RX12, TX12, 150, tyX12, rfl, oi_X12, by decide, om_1903, tyX12_ok, nmX12, rfl, rfl, by decide +kernel⟩
theorem ff_X12_165 : jFPF vwCl Om RX12 165 15 40 (.array .int) := ⟨RX12, TX12, 150, tyX12, rfl, oi_X12, by decide, om_1904, tyX12_ok, nmX12, rfl, rfl, by decide +kernel⟩
theorem ff_X12_168 : jFPF vwCl Om RX12 168 15 41 (.array .int) := ⟨RX12, TX12, 150, tyX12, rfl, oi_X12, by decide, om_1905, tyX12_ok, nmX12, rfl, rfl, by decide +kernel⟩
theorem ff_X12_171 : jFPF vwCl Om RX12 171 15 42 (.array .long) := ⟨RX12, TX12, 150, tyX12, rfl, oi_X12, by decide, om_1906, tyX12_ok, nmX12, rfl, rfl, by decide +kernel⟩
theorem ff_X12_174 : jFPF vwCl Om RX12 174 15 43 (.array .long) := ⟨RX12, TX12, 150, tyX12, rfl, oi_X12, by decide, om_1907, tyX12_ok, nmX12, rfl, rfl, by decide +kernel⟩
theorem ff_X12_177 : jFPF vwCl Om RX12 177 15 45 (.array .int) := ⟨RX12, TX12, 150, tyX12, rfl, oi_X12, by decide, om_1908, tyX12_ok, nmX12, rfl, rfl, by decide +kernel⟩
theorem ff_X12_180 : jFPF vwCl Om RX12 180 15 46 (.array .int) := ⟨RX12, TX12, 150, tyX12, rfl, oi_X12, by decide, om_1909, tyX12_ok, nmX12, rfl, rfl, by decide +kernel⟩
theorem ff_X12_183 : jFPF vwCl Om RX12 183 15 48 (.array .int) := ⟨RX12, TX12, 150, tyX12, rfl, oi_X12, by decide, om_1910, tyX12_ok, nmX12, rfl, rfl, by decide +kernel⟩
theorem ff_X12_186 : jFPF vwCl Om RX12 186 15 49 (.array .int) := ⟨RX12, TX12, 150, tyX12, rfl, oi_X12, by decide, om_1911, tyX12_ok, nmX12, rfl, rfl, by decide +kernel⟩
theorem ff_X12_189 : jFPF vwCl Om RX12 189 15 50 (.array .int) := ⟨RX12, TX12, 150, tyX12, rfl, oi_X12, by decide, om_1912, tyX12_ok, nmX12, rfl, rfl, by decide +kernel⟩
theorem ff_X12_192 : jFPF vwCl Om RX12 192 15 51 (.array .int) := ⟨RX12, TX12, 150, tyX12, rfl, oi_X12, by decide, om_1913, tyX12_ok, nmX12, rfl, rfl, by decide +kernel⟩
theorem ff_X12_195 : jFPF vwCl Om RX12 195 15 52 (.array .int) := ⟨RX12, TX12, 150, tyX12, rfl, oi_X12, by decide, om_1914, tyX12_ok, nmX12, rfl, rfl, by decide +kernel⟩
theorem ff_X12_198 : jFPF vwCl Om RX12 198 15 53 (.array .int) := ⟨RX12, TX12, 150, tyX12, rfl, oi_X12, by decide, om_1915, tyX12_ok, nmX12, rfl, rfl, by decide +kernel⟩
theorem ff_X12_201 : jFPF vwCl Om RX12 201 15 54 (.array .int) := ⟨RX12, TX12, 150, tyX12, rfl, oi_X12, by decide, om_1916, tyX12_ok, nmX12, rfl, rfl, by decide +kernel⟩
theorem ff_X12_204 : jFPF vwCl Om RX12 204 15 55 (.array .int) := ⟨RX12, TX12, 150, tyX12, rfl, oi_X12, by decide, om_1917, tyX12_ok, nmX12, rfl, rfl, by decide +kernel⟩
theorem ff_X12_207 : jFPF vwCl Om RX12 207 15 56 (.array .int) := ⟨RX12, TX12, 150, tyX12, rfl, oi_X12, by decide, om_1918, tyX12_ok, nmX12, rfl, rfl, by decide +kernel⟩
theorem ff_X12_210 : jFPF vwCl Om RX12 210 15 57 (.array .int) := ⟨RX12, TX12, 150, tyX12, rfl, oi_X12, by decide, om_1919, tyX12_ok, nmX12, rfl, rfl, by decide +kernel⟩
theorem ff_X12_213 : jFPF vwCl Om RX12 213 15 58 (.array .int) := ⟨RX12, TX12, 150, tyX12, rfl, oi_X12, by decide, om_1920, tyX12_ok, nmX12, rfl, rfl, by decide +kernel⟩
theorem ff_X12_216 : jFPF vwCl Om RX12 216 15 59 (.array .int) := ⟨RX12, TX12, 150, tyX12, rfl, oi_X12, by decide, om_1921, tyX12_ok, nmX12, rfl, rfl, by decide +kernel⟩
theorem ff_X12_219 : jFPF vwCl Om RX12 219 15 60 (.array .int) := ⟨RX12, TX12, 150, tyX12, rfl, oi_X12, by decide, om_1922, tyX12_ok, nmX12, rfl, rfl, by decide +kernel⟩
theorem ff_X12_222 : jFPF vwCl Om RX12 222 15 61 (.array .int) := ⟨RX12, TX12, 150, tyX12, rfl, oi_X12, by decide, om_1923, tyX12_ok, nmX12, rfl, rfl, by decide +kernel⟩
theorem ff_X12_225 : jFPF vwCl Om RX12 225 15 62 (.array .int) := ⟨RX12, TX12, 150, tyX12, rfl, oi_X12, by decide, om_1924, tyX12_ok, nmX12, rfl, rfl, by decide +kernel⟩
theorem ff_X12_228 : jFPF vwCl Om RX12 228 15 63 (.array .int) := ⟨RX12, TX12, 150, tyX12, rfl, oi_X12, by decide, om_1925, tyX12_ok, nmX12, rfl, rfl, by decide +kernel⟩
theorem ff_X12_231 : jFPF vwCl Om RX12 231 15 64 (.array .int) := ⟨RX12, TX12, 150, tyX12, rfl, oi_X12, by decide, om_1926, tyX12_ok, nmX12, rfl, rfl, by decide +kernel⟩
theorem ff_X12_234 : jFPF vwCl Om RX12 234 15 65 (.array .int) := ⟨RX12, TX12, 150, tyX12, rfl, oi_X12, by decide, om_1927, tyX12_ok, nmX12, rfl, rfl, by decide +kernel⟩
theorem ff_X12_237 : jFPF vwCl Om RX12 237 15 66 (.array .int) := ⟨RX12, TX12, 150, tyX12, rfl, oi_X12, by decide, om_1928, tyX12_ok, nmX12, rfl, rfl, by decide +kernel⟩
theorem ff_X12_240 : jFPF vwCl Om RX12 240 15 67 (.array .int) := ⟨RX12, TX12, 150, tyX12, rfl, oi_X12, by decide, om_1929, tyX12_ok, nmX12, rfl, rfl, by decide +kernel⟩
theorem ff_X12_243 : jFPF vwCl Om RX12 243 15 68 (.array .long) := ⟨RX12, TX12, 150, tyX12, rfl, oi_X12, by decide, om_1930, tyX12_ok, nmX12, rfl, rfl, by decide +kernel⟩
theorem ff_X12_246 : jFPF vwCl Om RX12 246 15 69 (.array .boolean) := ⟨RX12, TX12, 150, tyX12, rfl, oi_X12, by decide, om_1931, tyX12_ok, nmX12, rfl, rfl, by decide +kernel⟩
theorem ff_X12_249 : jFPF vwCl Om RX12 249 15 70 (.array .boolean) := ⟨RX12, TX12, 150, tyX12, rfl, oi_X12, by decide, om_1932, tyX12_ok, nmX12, rfl, rfl, by decide +kernel⟩
theorem ff_X12_253 : jFPF vwCl Om RX12 253 15 71 (.array .boolean) := ⟨RX12, TX12, 150, tyX12, rfl, oi_X12, by decide, om_1934, tyX12_ok, nmX12, rfl, rfl, by decide +kernel⟩
theorem ff_X12_256 : jFPF vwCl Om RX12 256 15 72 (.array .int) := ⟨RX12, TX12, 150, tyX12, rfl, oi_X12, by decide, om_1935, tyX12_ok, nmX12, rfl, rfl, by decide +kernel⟩
theorem ff_X12_259 : jFPF vwCl Om RX12 259 15 74 (.array .int) := ⟨RX12, TX12, 150, tyX12, rfl, oi_X12, by decide, om_1936, tyX12_ok, nmX12, rfl, rfl, by decide +kernel⟩
theorem ff_X12_262 : jFPF vwCl Om RX12 262 15 76 (.array .int) := ⟨RX12, TX12, 150, tyX12, rfl, oi_X12, by decide, om_1937, tyX12_ok, nmX12, rfl, rfl, by decide +kernel⟩
theorem ff_X12_265 : jFPF vwCl Om RX12 265 15 77 (.array .int) := ⟨RX12, TX12, 150, tyX12, rfl, oi_X12, by decide, om_1938, tyX12_ok, nmX12, rfl, rfl, by decide +kernel⟩
theorem ff_X12_272 : jFPF vwCl Om RX12 272 15 86 (.array .int) := ⟨RX12, TX12, 150, tyX12, rfl, oi_X12, by decide, om_1940, tyX12_ok, nmX12, rfl, rfl, by decide +kernel⟩
theorem ff_X12_275 : jFPF vwCl Om RX12 275 15 87 (.array .int) := ⟨RX12, TX12, 150, tyX12, rfl, oi_X12, by decide, om_1941, tyX12_ok, nmX12, rfl, rfl, by decide +kernel⟩
theorem ff_X12_278 : jFPF vwCl Om RX12 278 15 88 (.array .int) := ⟨RX12, TX12, 150, tyX12, rfl, oi_X12, by decide, om_1942, tyX12_ok, nmX12, rfl, rfl, by decide +kernel⟩
theorem ff_X12_281 : jFPF vwCl Om RX12 281 15 89 (.array .int) := ⟨RX12, TX12, 150, tyX12, rfl, oi_X12, by decide, om_1943, tyX12_ok, nmX12, rfl, rfl, by decide +kernel⟩
theorem ff_X12_284 : jFPF vwCl Om RX12 284 15 90 (.array .long) := ⟨RX12, TX12, 150, tyX12, rfl, oi_X12, by decide, om_1944, tyX12_ok, nmX12, rfl, rfl, by decide +kernel⟩
theorem ff_X12_287 : jFPF vwCl Om RX12 287 15 96 (.array .long) := ⟨RX12, TX12, 150, tyX12, rfl, oi_X12, by decide, om_1945, tyX12_ok, nmX12, rfl, rfl, by decide +kernel⟩
theorem ff_X12_290 : jFPF vwCl Om RX12 290 15 104 (.array .int) := ⟨RX12, TX12, 150, tyX12, rfl, oi_X12, by decide, om_1946, tyX12_ok, nmX12, rfl, rfl, by decide +kernel⟩
theorem ff_X12_294 : jFPF vwCl Om RX12 294 15 105 (.array .int) := ⟨RX12, TX12, 150, tyX12, rfl, oi_X12, by decide, om_1948, tyX12_ok, nmX12, rfl, rfl, by decide +kernel⟩
theorem ff_X12_297 : jFPF vwCl Om RX12 297 15 106 (.array .int) := ⟨RX12, TX12, 150, tyX12, rfl, oi_X12, by decide, om_1949, tyX12_ok, nmX12, rfl, rfl, by decide +kernel⟩
theorem ff_X12_300 : jFPF vwCl Om RX12 300 15 107 (.array .int) := ⟨RX12, TX12, 150, tyX12, rfl, oi_X12, by decide, om_1950, tyX12_ok, nmX12, rfl, rfl, by decide +kernel⟩
theorem ff_X12_303 : jFPF vwCl Om RX12 303 15 108 (.array .int) := ⟨RX12, TX12, 150, tyX12, rfl, oi_X12, by decide, om_1951, tyX12_ok, nmX12, rfl, rfl, by decide +kernel⟩
theorem ff_X12_306 : jFPF vwCl Om RX12 306 15 109 (.array .long) := ⟨RX12, TX12, 150, tyX12, rfl, oi_X12, by decide, om_1952, tyX12_ok, nmX12, rfl, rfl, by decide +kernel⟩
theorem ff_X12_309 : jFPF vwCl Om RX12 309 15 111 (.array .int) := ⟨RX12, TX12, 150, tyX12, rfl, oi_X12, by decide, om_1953, tyX12_ok, nmX12, rfl, rfl, by decide +kernel⟩
theorem ff_X12_312 : jFPF vwCl Om RX12 312 15 112 (.array .int) := ⟨RX12, TX12, 150, tyX12, rfl, oi_X12, by decide, om_1954, tyX12_ok, nmX12, rfl, rfl, by decide +kernel⟩
theorem ff_X12_315 : jFPF vwCl Om RX12 315 15 115 (.array .long) := ⟨RX12, TX12, 150, tyX12, rfl, oi_X12, by decide, om_1955, tyX12_ok, nmX12, rfl, rfl, by decide +kernel⟩
theorem ff_X12_318 : jFPF vwCl Om RX12 318 15 116 (.array .long) := ⟨RX12, TX12, 150, tyX12, rfl, oi_X12, by decide, om_1956, tyX12_ok, nmX12, rfl, rfl, by decide +kernel⟩
theorem ff_X12_321 : jFPF vwCl Om RX12 321 15 117 (.array .long) := ⟨RX12, TX12, 150, tyX12, rfl, oi_X12, by decide, om_1957, tyX12_ok, nmX12, rfl, rfl, by decide +kernel⟩
theorem ff_X12_324 : jFPF vwCl Om RX12 324 15 118 (.array .int) := ⟨RX12, TX12, 150, tyX12, rfl, oi_X12, by decide, om_1958, tyX12_ok, nmX12, rfl, rfl, by decide +kernel⟩
theorem ff_X12_327 : jFPF vwCl Om RX12 327 15 119 (.array .int) := ⟨RX12, TX12, 150, tyX12, rfl, oi_X12, by decide, om_1959, tyX12_ok, nmX12, rfl, rfl, by decide +kernel⟩
theorem ff_X12_330 : jFPF vwCl Om RX12 330 15 120 (.array .int) := ⟨RX12, TX12, 150, tyX12, rfl, oi_X12, by decide, om_1960, tyX12_ok, nmX12, rfl, rfl, by decide +kernel⟩
theorem ff_X12_333 : jFPF vwCl Om RX12 333 15 121 (.array .int) := ⟨RX12, TX12, 150, tyX12, rfl, oi_X12, by decide, om_1961, tyX12_ok, nmX12, rfl, rfl, by decide +kernel⟩
theorem ff_X12_336 : jFPF vwCl Om RX12 336 15 122 (.array .int) := ⟨RX12, TX12, 150, tyX12, rfl, oi_X12, by decide, om_1962, tyX12_ok, nmX12, rfl, rfl, by decide +kernel⟩
theorem ff_X12_339 : jFPF vwCl Om RX12 339 15 123 (.array .int) := ⟨RX12, TX12, 150, tyX12, rfl, oi_X12, by decide, om_1963, tyX12_ok, nmX12, rfl, rfl, by decide +kernel⟩
theorem ff_X12_342 : jFPF vwCl Om RX12 342 15 124 (.array .int) := ⟨RX12, TX12, 150, tyX12, rfl, oi_X12, by decide, om_1964, tyX12_ok, nmX12, rfl, rfl, by decide +kernel⟩
theorem ff_X12_345 : jFPF vwCl Om RX12 345 15 125 (.array .int) := ⟨RX12, TX12, 150, tyX12, rfl, oi_X12, by decide, om_1965, tyX12_ok, nmX12, rfl, rfl, by decide +kernel⟩
theorem ff_X12_348 : jFPF vwCl Om RX12 348 15 126 (.array .int) := ⟨RX12, TX12, 150, tyX12, rfl, oi_X12, by decide, om_1966, tyX12_ok, nmX12, rfl, rfl, by decide +kernel⟩
theorem ff_X12_351 : jFPF vwCl Om RX12 351 15 127 (.array .int) := ⟨RX12, TX12, 150, tyX12, rfl, oi_X12, by decide, om_1967, tyX12_ok, nmX12, rfl, rfl, by decide +kernel⟩
theorem ff_X12_354 : jFPF vwCl Om RX12 354 15 128 (.array .int) := ⟨RX12, TX12, 150, tyX12, rfl, oi_X12, by decide, om_1968, tyX12_ok, nmX12, rfl, rfl, by decide +kernel⟩
theorem ff_X12_357 : jFPF vwCl Om RX12 357 15 129 (.array .boolean) := ⟨RX12, TX12, 150, tyX12, rfl, oi_X12, by decide, om_1969, tyX12_ok, nmX12, rfl, rfl, by decide +kernel⟩
theorem ff_X12_360 : jFPF vwCl Om RX12 360 15 130 (.array .boolean) := ⟨RX12, TX12, 150, tyX12, rfl, oi_X12, by decide, om_1970, tyX12_ok, nmX12, rfl, rfl, by decide +kernel⟩
theorem ff_X12_363 : jFPF vwCl Om RX12 363 15 131 (.array .boolean) := ⟨RX12, TX12, 150, tyX12, rfl, oi_X12, by decide, om_1971, tyX12_ok, nmX12, rfl, rfl, by decide +kernel⟩
theorem ff_X12_366 : jFPF vwCl Om RX12 366 15 132 (.array .boolean) := ⟨RX12, TX12, 150, tyX12, rfl, oi_X12, by decide, om_1972, tyX12_ok, nmX12, rfl, rfl, by decide +kernel⟩
theorem ff_X12_369 : jFPF vwCl Om RX12 369 15 139 (.array .byte) := ⟨RX12, TX12, 150, tyX12, rfl, oi_X12, by decide, om_1973, tyX12_ok, nmX12, rfl, rfl, by decide +kernel⟩
theorem ff_X12_372 : jFPF vwCl Om RX12 372 15 140 (.array .byte) := ⟨RX12, TX12, 150, tyX12, rfl, oi_X12, by decide, om_1974, tyX12_ok, nmX12, rfl, rfl, by decide +kernel⟩
theorem ff_X12_375 : jFPF vwCl Om RX12 375 15 144 (.array .int) := ⟨RX12, TX12, 150, tyX12, rfl, oi_X12, by decide, om_1975, tyX12_ok, nmX12, rfl, rfl, by decide +kernel⟩
theorem ff_X12_378 : jFPF vwCl Om RX12 378 15 145 (.array .int) := ⟨RX12, TX12, 150, tyX12, rfl, oi_X12, by decide, om_1976, tyX12_ok, nmX12, rfl, rfl, by decide +kernel⟩
theorem ff_X12_381 : jFPF vwCl Om RX12 381 15 147 (.array .int) := ⟨RX12, TX12, 150, tyX12, rfl, oi_X12, by decide, om_1977, tyX12_ok, nmX12, rfl, rfl, by decide +kernel⟩
theorem nc_X11_9 : jNC vwCl Om ftB RX11 9 12 := ⟨RX9, TX9, 12, tyX9, rfl, oi_X9, tyX9_ok, om_1614, om_1615, om_531, by decide +kernel, by decide +kernel⟩
theorem nc_X11_16 : jNC vwCl Om ftB RX11 16 13 := ⟨RX10, TX10, 18, tyX10, rfl, oi_X10, tyX10_ok, om_1640, om_1641, om_42, by decide +kernel, by decide +kernel⟩
theorem nc_X11_23 : jNC vwCl Om ftB RX11 23 5 := ⟨RX2, TX2, 14, tyX2, rfl, oi_X2, tyX2_ok, om_1665, om_1666, om_181, by decide +kernel, by decide +kernel⟩
theorem nc_X11_32 : jNC vwCl Om ftB RX11 32 6 := ⟨RX3, TX3, 13, tyX3, rfl, oi_X3, tyX3_ok, om_1682, om_1683, om_261, by decide +kernel, by decide +kernel⟩
theorem nc_X11_39 : jNC vwCl Om ftB RX11 39 8 := ⟨RX5, TX5, 21, tyX5, rfl, oi_X5, tyX5_ok, om_1700, om_1701, om_22, by decide +kernel, by decide +kernel⟩
theorem nc_X5_73 : jNC vwCl Om ftB RX5 73 11 := ⟨RX8, TX8, 18, tyX8, rfl, oi_X8, tyX8_ok, om_1721, om_1722, om_422, by decide +kernel, by decide +kernel⟩
theorem nc_X11_50 : jNC vwCl Om ftB RX11 50 9 := ⟨RX6, TX6, 19, tyX6, rfl, oi_X6, tyX6_ok, om_1747, om_1748, om_609, by decide +kernel, by decide +kernel⟩
theorem nc_X11_59 : jNC vwCl Om ftB RX11 59 7 := ⟨RX4, TX4, 21, tyX4, rfl, oi_X4, tyX4_ok, om_1762, om_1763, om_289, by decide +kernel, by decide +kernel⟩
theorem nc_X11_74 : jNC vwCl Om ftB RX11 74 10 := ⟨RX7, TX7, 21, tyX7, rfl, oi_X7, tyX7_ok, om_1788, om_1789, om_716, by decide +kernel, by decide +kernel⟩
theorem nc_X11_81 : jNC vwCl Om ftB RX11 81 4 := ⟨RX1, TX1, 10, tyX1, rfl, oi_X1, tyX1_ok, om_1813, om_1814, om_145, by decide +kernel, by decide +kernel⟩
theorem nc_X11_88 : jNC vwCl Om ftB RX11 88 3 := ⟨RX0, TX0, 15, tyX0, rfl, oi_X0, tyX0_ok, om_1826, om_1827, om_4, by decide +kernel, by decide +kernel⟩
theorem nc_L_8 : jNC vwCl Om ftB RL 8 14 := ⟨RX11, TX11, 18, tyX11, rfl, oi_X11, tyX11_ok, om_2480, om_2481, om_854, by decide +kernel, by decide +kernel⟩
theorem nc_L_117 : jNC vwCl Om ftB RL 117 15 := ⟨RX12, TX12, 150, tyX12, rfl, oi_X12, tyX12_ok, om_2482, om_2483, om_1040, by decide +kernel, by decide +kernel⟩
