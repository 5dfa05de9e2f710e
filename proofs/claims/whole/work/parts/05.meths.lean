def yN (mi : Nat) : MethodName := ([⟨"EmptyChairs$Assembly", "<init>", "()V"⟩, ⟨"EmptyChairs$Assembly", "reset", "()V"⟩, ⟨"EmptyChairs$Assembly", "copyFrom", "(LEmptyChairs$Assembly;)V"⟩, ⟨"EmptyChairs$Assembly", "find", "(J[JI)I"⟩, ⟨"EmptyChairs$Assembly", "findParty", "(J)I"⟩, ⟨"EmptyChairs$Assembly", "findMotion", "(J)I"⟩, ⟨"EmptyChairs$Assembly", "findMember", "(J)I"⟩, ⟨"EmptyChairs$Assembly", "hasName", "(J)Z"⟩, ⟨"EmptyChairs$Assembly", "deadSet", "()I"⟩, ⟨"EmptyChairs$Assembly", "sickSet", "()I"⟩, ⟨"EmptyChairs$Assembly", "walkers", "()I"⟩, ⟨"EmptyChairs$Assembly", "pricesOf", "(I)I"⟩, ⟨"EmptyChairs$Assembly", "pass", "(ILEmptyChairs$Scale;)I"⟩, ⟨"EmptyChairs$Assembly", "walkAll", "(I)Z"⟩, ⟨"EmptyChairs$Assembly", "elapse", "(IILEmptyChairs$Scale;)I"⟩, ⟨"EmptyChairs$Assembly", "allOdds", "()I"⟩, ⟨"EmptyChairs$Assembly", "orderRooms", "([I)V"⟩, ⟨"EmptyChairs$Assembly", "isSoughtAhead", "(II)Z"⟩, ⟨"EmptyChairs$AssemblyParser", "<init>", "(LEmptyChairs$Tape;LEmptyChairs$Assembly;)V"⟩, ⟨"EmptyChairs$AssemblyParser", "parse", "(I)Z"⟩, ⟨"EmptyChairs$AssemblyParser", "takePart", "()Z"⟩, ⟨"EmptyChairs$AssemblyParser", "takeLaw", "(I)Z"⟩, ⟨"EmptyChairs$AssemblyParser", "takePartyPart", "()Z"⟩, ⟨"EmptyChairs$AssemblyParser", "takeMemberPart", "()Z"⟩, ⟨"EmptyChairs$AssemblyParser", "takeTraits", "()Z"⟩, ⟨"EmptyChairs$AssemblyParser", "takeTrait", "(IIII)Z"⟩, ⟨"EmptyChairs$AssemblyParser", "takeTwinsPart", "()Z"⟩, ⟨"EmptyChairs$AssemblyParser", "takeMotionPart", "()Z"⟩, ⟨"EmptyChairs$AssemblyParser", "takeRoomPart", "()Z"⟩, ⟨"EmptyChairs$AssemblyParser", "takeNewName", "()Z"⟩, ⟨"EmptyChairs$AssemblyParser", "takeParty", "()Z"⟩, ⟨"EmptyChairs$AssemblyParser", "takeLoneMember", "(I)Z"⟩, ⟨"EmptyChairs$AssemblyParser", "takeParties", "(I)Z"⟩, ⟨"EmptyChairs$Member", "<init>", "()V"⟩, ⟨"EmptyChairs$Member", "reset", "()V"⟩, ⟨"EmptyChairs$Member", "copyFrom", "(LEmptyChairs$Member;)V"⟩, ⟨"EmptyChairs$Member", "isDead", "()Z"⟩, ⟨"EmptyChairs$Member", "canWalk", "()Z"⟩, ⟨"EmptyChairs$Member", "perish", "()V"⟩, ⟨"EmptyChairs$Member", "yardsAfter", "(I)I"⟩, ⟨"EmptyChairs$Member", "walkOn", "(I)Z"⟩, ⟨"EmptyChairs$Runner", "<init>", "(LEmptyChairs$Scale;LEmptyChairs$Assembly;)V"⟩, ⟨"EmptyChairs$Runner", "run", "(LEmptyChairs$Assembly;I)I"⟩, ⟨"EmptyChairs$Runner", "runSteps", "(III)V"⟩, ⟨"EmptyChairs$Runner", "runStep", "(II)V"⟩, ⟨"EmptyChairs$Runner", "runAny", "()V"⟩, ⟨"EmptyChairs$Runner", "runTold", "(ILEmptyChairs$Member;)V"⟩, ⟨"EmptyChairs$Runner", "isTrue", "(I)Z"⟩, ⟨"EmptyChairs$Runner", "compares", "(III)Z"⟩, ⟨"EmptyChairs$Scale", "<init>", "(LEmptyChairs$Assembly;)V"⟩, ⟨"EmptyChairs$Scale", "load", "(LEmptyChairs$Assembly;I)V"⟩, ⟨"EmptyChairs$Scale", "setLaw", "(III)V"⟩, ⟨"EmptyChairs$Scale", "sendAway", "(I)V"⟩, ⟨"EmptyChairs$Scale", "weigh", "()V"⟩, ⟨"EmptyChairs$Scale", "ownWeight", "(LEmptyChairs$Member;I)I"⟩, ⟨"EmptyChairs$Scale", "powerOfSet", "(I)I"⟩, ⟨"EmptyChairs$Scale", "allPower", "()I"⟩, ⟨"EmptyChairs$Scale", "governor", "()I"⟩, ⟨"EmptyChairs$Scale", "marginOf", "(I)I"⟩, ⟨"EmptyChairs$Scale", "carriedSet", "()I"⟩, ⟨"EmptyChairs$Scale", "isWinning", "(I)Z"⟩, ⟨"EmptyChairs$Scale", "swingsOf", "(I)I"⟩, ⟨"EmptyChairs$Scale", "isLean", "(I)Z"⟩, ⟨"EmptyChairs$Script", "<init>", "()V"⟩, ⟨"EmptyChairs$Script", "reset", "()V"⟩, ⟨"EmptyChairs$Script", "copyFrom", "(LEmptyChairs$Script;)V"⟩, ⟨"EmptyChairs$ScriptParser", "<init>", "(LEmptyChairs$Tape;LEmptyChairs$Assembly;)V"⟩, ⟨"EmptyChairs$ScriptParser", "parse", "(I)Z"⟩, ⟨"EmptyChairs$ScriptParser", "takeEnd", "()Z"⟩, ⟨"EmptyChairs$ScriptParser", "beginsStep", "(I)Z"⟩, ⟨"EmptyChairs$ScriptParser", "takeStep", "(I)Z"⟩, ⟨"EmptyChairs$ScriptParser", "takeRest", "(II)Z"⟩, ⟨"EmptyChairs$ScriptParser", "takeTest", "(I)Z"⟩, ⟨"EmptyChairs$ScriptParser", "takeName", "(II)Z"⟩, ⟨"EmptyChairs$Strategy", "<init>", "(LEmptyChairs$Scale;LEmptyChairs$Assembly;)V"⟩, ⟨"EmptyChairs$Strategy", "bestAway", "(LEmptyChairs$Assembly;IZ)I"⟩, ⟨"EmptyChairs$Strategy", "play", "(LEmptyChairs$Assembly;III)I"⟩, ⟨"EmptyChairs$Strategy", "valueFrom", "(I)I"⟩, ⟨"EmptyChairs$Strategy", "valueOf", "(II)I"⟩, ⟨"EmptyChairs$Tallies", "<init>", "(LEmptyChairs$Scale;)V"⟩, ⟨"EmptyChairs$Tallies", "reckon", "(LEmptyChairs$Assembly;LEmptyChairs$Tray;)V"⟩, ⟨"EmptyChairs$Tallies", "isTallied", "(LEmptyChairs$Assembly;IILEmptyChairs$Tray;)Z"⟩, ⟨"EmptyChairs$Tallies", "addWay", "(LEmptyChairs$Assembly;I)V"⟩, ⟨"EmptyChairs$Tallies", "bestToAsk", "(LEmptyChairs$Assembly;)I"⟩, ⟨"EmptyChairs$Tape", "<init>", "()V"⟩, ⟨"EmptyChairs$Tape", "hasSpace", "()Z"⟩, ⟨"EmptyChairs$Tape", "append", "(I)V"⟩, ⟨"EmptyChairs$Tape", "begin", "(I)V"⟩, ⟨"EmptyChairs$Tape", "advance", "()V"⟩, ⟨"EmptyChairs$Tape", "readWord", "()V"⟩, ⟨"EmptyChairs$Tape", "readDigits", "()V"⟩, ⟨"EmptyChairs$Tape", "readSign", "()V"⟩, ⟨"EmptyChairs$Tape", "isAtEnd", "()Z"⟩, ⟨"EmptyChairs$Tape", "isName", "()Z"⟩, ⟨"EmptyChairs$Tape", "refuse", "(I)Z"⟩, ⟨"EmptyChairs$Tape", "takeKey", "(I)Z"⟩, ⟨"EmptyChairs$Tape", "skipKey", "(I)Z"⟩, ⟨"EmptyChairs$Tape", "takeNumber", "(II)Z"⟩, ⟨"EmptyChairs$Tape", "takeClose", "()Z"⟩, ⟨"EmptyChairs$Tape", "takeCompares", "()Z"⟩, ⟨"EmptyChairs$Tray", "<init>", "()V"⟩, ⟨"EmptyChairs$Tray", "isMissing", "()Z"⟩, ⟨"EmptyChairs$Tray", "lay", "(II)V"⟩, ⟨"EmptyChairs$Tray", "holds", "(II)Z"⟩, ⟨"EmptyChairs$Tray", "put", "(IJ)V"⟩, ⟨"EmptyChairs$Tray", "cut", "(J)J"⟩, ⟨"EmptyChairs", "<init>", "()V"⟩, ⟨"EmptyChairs", "status", "()I"⟩, ⟨"EmptyChairs", "top", "()J"⟩, ⟨"EmptyChairs", "bottom", "()J"⟩, ⟨"EmptyChairs", "answer", "(I)I"⟩, ⟨"EmptyChairs", "refuse", "(I)I"⟩, ⟨"EmptyChairs", "answerOrNone", "(I)I"⟩, ⟨"EmptyChairs", "done", "()Z"⟩, ⟨"EmptyChairs", "deny", "(I)Z"⟩, ⟨"EmptyChairs", "tellFraction", "(JJ)Z"⟩, ⟨"EmptyChairs", "greatestDivisor", "(JJ)J"⟩, ⟨"EmptyChairs", "isBetween", "(III)Z"⟩, ⟨"EmptyChairs", "isTray", "(I)Z"⟩, ⟨"EmptyChairs", "isParty", "(I)Z"⟩, ⟨"EmptyChairs", "isMember", "(I)Z"⟩, ⟨"EmptyChairs", "isMotion", "(I)Z"⟩, ⟨"EmptyChairs", "isSetOf", "(II)Z"⟩, ⟨"EmptyChairs", "weighNow", "()V"⟩, ⟨"EmptyChairs", "weighIn", "(I)V"⟩, ⟨"EmptyChairs", "trayTrouble", "(II)I"⟩, ⟨"EmptyChairs", "placeTrouble", "(II)I"⟩, ⟨"EmptyChairs", "tray", "(III)Z"⟩, ⟨"EmptyChairs", "write", "(IIJ)Z"⟩, ⟨"EmptyChairs", "read", "(II)J"⟩, ⟨"EmptyChairs", "pour", "(IIIII)Z"⟩, ⟨"EmptyChairs", "feed", "(IIIII)I"⟩, ⟨"EmptyChairs", "assembly", "(I)I"⟩, ⟨"EmptyChairs", "sessions", "(I)I"⟩, ⟨"EmptyChairs", "fault", "(I)I"⟩, ⟨"EmptyChairs", "many", "(I)I"⟩, ⟨"EmptyChairs", "plainMany", "(I)I"⟩, ⟨"EmptyChairs", "weighedMany", "(I)I"⟩, ⟨"EmptyChairs", "member", "(II)I"⟩, ⟨"EmptyChairs", "motion", "(II)I"⟩, ⟨"EmptyChairs", "room", "(II)I"⟩, ⟨"EmptyChairs", "counts", "(I)I"⟩, ⟨"EmptyChairs", "power", "(I)I"⟩, ⟨"EmptyChairs", "powerOf", "(I)I"⟩, ⟨"EmptyChairs", "governs", "()I"⟩, ⟨"EmptyChairs", "bells", "(I)I"⟩, ⟨"EmptyChairs", "margin", "(I)I"⟩, ⟨"EmptyChairs", "copyCounts", "(I)I"⟩, ⟨"EmptyChairs", "minute", "(I)I"⟩, ⟨"EmptyChairs", "walk", "(II)Z"⟩, ⟨"EmptyChairs", "die", "(I)I"⟩, ⟨"EmptyChairs", "fall", "(IZ)Z"⟩, ⟨"EmptyChairs", "hide", "(IZ)Z"⟩, ⟨"EmptyChairs", "carry", "(II)I"⟩, ⟨"EmptyChairs", "year", "()I"⟩, ⟨"EmptyChairs", "rule", "(II)Z"⟩, ⟨"EmptyChairs", "join", "(II)I"⟩, ⟨"EmptyChairs", "side", "(III)Z"⟩, ⟨"EmptyChairs", "yardsIn", "(II)I"⟩, ⟨"EmptyChairs", "governsIn", "(I)I"⟩, ⟨"EmptyChairs", "firstIn", "(I)I"⟩, ⟨"EmptyChairs", "carriedIn", "(I)I"⟩, ⟨"EmptyChairs", "reign", "(II)I"⟩, ⟨"EmptyChairs", "emptyIn", "()I"⟩, ⟨"EmptyChairs", "fewest", "(I)I"⟩, ⟨"EmptyChairs", "fewestSet", "(I)I"⟩, ⟨"EmptyChairs", "cheapest", "(I)I"⟩, ⟨"EmptyChairs", "cheapestSet", "(I)I"⟩, ⟨"EmptyChairs", "powerBy", "(II)I"⟩, ⟨"EmptyChairs", "gameTrouble", "(IIII)I"⟩, ⟨"EmptyChairs", "game", "(III)I"⟩, ⟨"EmptyChairs", "moveOf", "(III)I"⟩, ⟨"EmptyChairs", "winning", "()I"⟩, ⟨"EmptyChairs", "wins", "(I)I"⟩, ⟨"EmptyChairs", "swings", "(I)I"⟩, ⟨"EmptyChairs", "share", "(I)Z"⟩, ⟨"EmptyChairs", "lean", "()I"⟩, ⟨"EmptyChairs", "carriedBy", "(III)I"⟩, ⟨"EmptyChairs", "farFor", "(I)I"⟩, ⟨"EmptyChairs", "tally", "(I)I"⟩, ⟨"EmptyChairs", "sure", "(I)I"⟩, ⟨"EmptyChairs", "ask", "(I)I"⟩, ⟨"EmptyChairs", "seek", "()Z"⟩, ⟨"EmptyChairs", "seekAt", "(I)I"⟩, ⟨"EmptyChairs", "live", "(I)I"⟩, ⟨"EmptyChairs", "lived", "(I)I"⟩, ⟨"EmptyChairs", "mean", "(II)Z"⟩, ⟨"EmptyChairs", "mark", "()I"⟩, ⟨"EmptyChairs", "back", "()I"⟩, ⟨"EmptyChairsModel", "<init>", "()V"⟩, ⟨"EmptyChairsModel", "status", "()I"⟩, ⟨"EmptyChairsModel", "top", "()J"⟩, ⟨"EmptyChairsModel", "bottom", "()J"⟩, ⟨"EmptyChairsModel", "refuse", "(I)I"⟩, ⟨"EmptyChairsModel", "no", "(I)Z"⟩, ⟨"EmptyChairsModel", "isIn", "(JJJ)Z"⟩, ⟨"EmptyChairsModel", "fraction", "(JJ)Z"⟩, ⟨"EmptyChairsModel", "cut", "(IJ)J"⟩, ⟨"EmptyChairsModel", "tray", "(III)Z"⟩, ⟨"EmptyChairsModel", "trayed", "(I)I"⟩, ⟨"EmptyChairsModel", "placed", "(II)I"⟩, ⟨"EmptyChairsModel", "write", "(IIJ)Z"⟩, ⟨"EmptyChairsModel", "read", "(II)J"⟩, ⟨"EmptyChairsModel", "pour", "(IIIII)Z"⟩, ⟨"EmptyChairsModel", "numberOf", "(II)J"⟩, ⟨"EmptyChairsModel", "isTray", "(I)Z"⟩, ⟨"EmptyChairsModel", "has", "(II)Z"⟩, ⟨"EmptyChairsModel", "sizeOf", "(I)I"⟩, ⟨"EmptyChairsModel", "look2", "(I)I"⟩, ⟨"EmptyChairsModel", "isLetter", "(I)Z"⟩, ⟨"EmptyChairsModel", "isDigit", "(I)Z"⟩, ⟨"EmptyChairsModel", "isSignByte", "(I)Z"⟩, ⟨"EmptyChairsModel", "advance", "()V"⟩, ⟨"EmptyChairsModel", "isSign", "(I)Z"⟩, ⟨"EmptyChairsModel", "spelled", "(IIIIII)J"⟩, ⟨"EmptyChairsModel", "isWord", "(J)Z"⟩, ⟨"EmptyChairsModel", "isFar", "()Z"⟩, ⟨"EmptyChairsModel", "isBuried", "()Z"⟩, ⟨"EmptyChairsModel", "isIll", "()Z"⟩, ⟨"EmptyChairsModel", "isBell", "()Z"⟩, ⟨"EmptyChairsModel", "isParty", "()Z"⟩, ⟨"EmptyChairsModel", "isMember", "()Z"⟩, ⟨"EmptyChairsModel", "isOf", "()Z"⟩, ⟨"EmptyChairsModel", "isAt", "()Z"⟩, ⟨"EmptyChairsModel", "isSpeed", "()Z"⟩, ⟨"EmptyChairsModel", "isPrice", "()Z"⟩, ⟨"EmptyChairsModel", "isDead", "()Z"⟩, ⟨"EmptyChairsModel", "isSick", "()Z"⟩, ⟨"EmptyChairsModel", "isHidden", "()Z"⟩, ⟨"EmptyChairsModel", "isTwins", "()Z"⟩, ⟨"EmptyChairsModel", "isMotion", "()Z"⟩, ⟨"EmptyChairsModel", "isFor", "()Z"⟩, ⟨"EmptyChairsModel", "isAgainst", "()Z"⟩, ⟨"EmptyChairsModel", "isRoom", "()Z"⟩, ⟨"EmptyChairsModel", "isTakes", "()Z"⟩, ⟨"EmptyChairsModel", "isOdds", "()Z"⟩, ⟨"EmptyChairsModel", "stepWord", "()I"⟩, ⟨"EmptyChairsModel", "testWord", "()I"⟩, ⟨"EmptyChairsModel", "isEnd", "()Z"⟩, ⟨"EmptyChairsModel", "isKept", "()Z"⟩, ⟨"EmptyChairsModel", "isName", "()Z"⟩, ⟨"EmptyChairsModel", "fail", "(II)V"⟩, ⟨"EmptyChairsModel", "amiss", "()V"⟩, ⟨"EmptyChairsModel", "must", "(Z)V"⟩, ⟨"EmptyChairsModel", "count", "(II)I"⟩, ⟨"EmptyChairsModel", "behindWord", "(ZII)I"⟩, ⟨"EmptyChairsModel", "perhaps", "(Z)Z"⟩, ⟨"EmptyChairsModel", "feed", "(IIIII)I"⟩, ⟨"EmptyChairsModel", "lay", "(I)V"⟩, ⟨"EmptyChairsModel", "starts", "(II)Z"⟩, ⟨"EmptyChairsModel", "isWell", "()Z"⟩, ⟨"EmptyChairsModel", "fault", "(I)I"⟩, ⟨"EmptyChairsModel", "empties", "(I)V"⟩, ⟨"EmptyChairsModel", "named", "(II)I"⟩, ⟨"EmptyChairsModel", "isTaken", "()Z"⟩, ⟨"EmptyChairsModel", "readNew", "(II)I"⟩, ⟨"EmptyChairsModel", "told", "(II)I"⟩, ⟨"EmptyChairsModel", "readTold", "(II)I"⟩, ⟨"EmptyChairsModel", "readOnce", "(III)V"⟩, ⟨"EmptyChairsModel", "readParty", "()V"⟩, ⟨"EmptyChairsModel", "readMember", "()V"⟩, ⟨"EmptyChairsModel", "readTwins", "()V"⟩, ⟨"EmptyChairsModel", "readParties", "(I)I"⟩, ⟨"EmptyChairsModel", "readMotion", "()V"⟩, ⟨"EmptyChairsModel", "readRoom", "()V"⟩, ⟨"EmptyChairsModel", "readPart", "()V"⟩, ⟨"EmptyChairsModel", "assembly", "(I)I"⟩, ⟨"EmptyChairsModel", "readTest", "(I)V"⟩, ⟨"EmptyChairsModel", "readRest", "(I)V"⟩, ⟨"EmptyChairsModel", "readStep", "(I)V"⟩, ⟨"EmptyChairsModel", "sessions", "(I)I"⟩, ⟨"EmptyChairsModel", "isPartyAt", "(I)Z"⟩, ⟨"EmptyChairsModel", "isMemberAt", "(I)Z"⟩, ⟨"EmptyChairsModel", "isMotionAt", "(I)Z"⟩, ⟨"EmptyChairsModel", "isRoomAt", "(I)Z"⟩, ⟨"EmptyChairsModel", "lives", "(I)Z"⟩, ⟨"EmptyChairsModel", "isUp", "(I)Z"⟩, ⟨"EmptyChairsModel", "isInside", "(I)Z"⟩, ⟨"EmptyChairsModel", "counted", "(I)I"⟩, ⟨"EmptyChairsModel", "powerOfAll", "(I)I"⟩, ⟨"EmptyChairsModel", "allParties", "()I"⟩, ⟨"EmptyChairsModel", "governing", "()I"⟩, ⟨"EmptyChairsModel", "marginOf", "(I)I"⟩, ⟨"EmptyChairsModel", "carried", "()I"⟩, ⟨"EmptyChairsModel", "membersThat", "(I)I"⟩, ⟨"EmptyChairsModel", "many", "(I)I"⟩, ⟨"EmptyChairsModel", "member", "(II)I"⟩, ⟨"EmptyChairsModel", "motion", "(II)I"⟩, ⟨"EmptyChairsModel", "room", "(II)I"⟩, ⟨"EmptyChairsModel", "counts", "(I)I"⟩, ⟨"EmptyChairsModel", "power", "(I)I"⟩, ⟨"EmptyChairsModel", "areParties", "(I)Z"⟩, ⟨"EmptyChairsModel", "powerOf", "(I)I"⟩, ⟨"EmptyChairsModel", "governs", "()I"⟩, ⟨"EmptyChairsModel", "bells", "(I)I"⟩, ⟨"EmptyChairsModel", "margin", "(I)I"⟩, ⟨"EmptyChairsModel", "copyCounts", "(I)I"⟩, ⟨"EmptyChairsModel", "walks", "(I)V"⟩, ⟨"EmptyChairsModel", "goesMinute", "()Z"⟩, ⟨"EmptyChairsModel", "minute", "(I)I"⟩, ⟨"EmptyChairsModel", "walk", "(II)Z"⟩, ⟨"EmptyChairsModel", "dies", "(I)V"⟩, ⟨"EmptyChairsModel", "die", "(I)I"⟩, ⟨"EmptyChairsModel", "fall", "(IZ)Z"⟩, ⟨"EmptyChairsModel", "hide", "(IZ)Z"⟩, ⟨"EmptyChairsModel", "carry", "(II)I"⟩, ⟨"EmptyChairsModel", "year", "()I"⟩, ⟨"EmptyChairsModel", "isRule", "(II)Z"⟩, ⟨"EmptyChairsModel", "rule", "(II)Z"⟩, ⟨"EmptyChairsModel", "join", "(II)I"⟩, ⟨"EmptyChairsModel", "side", "(III)Z"⟩, ⟨"EmptyChairsModel", "keeps", "()V"⟩, ⟨"EmptyChairsModel", "gives", "()V"⟩, ⟨"EmptyChairsModel", "isAhead", "(I)Z"⟩, ⟨"EmptyChairsModel", "yardsIn", "(II)I"⟩, ⟨"EmptyChairsModel", "governsIn", "(I)I"⟩, ⟨"EmptyChairsModel", "isSoNow", "(II)Z"⟩, ⟨"EmptyChairsModel", "firstSo", "(II)I"⟩, ⟨"EmptyChairsModel", "firstIn", "(I)I"⟩, ⟨"EmptyChairsModel", "carriedIn", "(I)I"⟩, ⟨"EmptyChairsModel", "emptyIn", "()I"⟩, ⟨"EmptyChairsModel", "reign", "(II)I"⟩, ⟨"EmptyChairsModel", "sends", "(I)V"⟩, ⟨"EmptyChairsModel", "free", "()I"⟩, ⟨"EmptyChairsModel", "pricesOf", "(I)I"⟩, ⟨"EmptyChairsModel", "bestAway", "(IZ)I"⟩, ⟨"EmptyChairsModel", "fewest", "(I)I"⟩, ⟨"EmptyChairsModel", "fewestSet", "(I)I"⟩, ⟨"EmptyChairsModel", "cheapest", "(I)I"⟩, ⟨"EmptyChairsModel", "cheapestSet", "(I)I"⟩, ⟨"EmptyChairsModel", "powerBy", "(II)I"⟩, ⟨"EmptyChairsModel", "plays", "(IIII)I"⟩, ⟨"EmptyChairsModel", "whyNoGame", "(IIII)I"⟩, ⟨"EmptyChairsModel", "game", "(III)I"⟩, ⟨"EmptyChairsModel", "moveOf", "(III)I"⟩, ⟨"EmptyChairsModel", "isWinning", "(I)Z"⟩, ⟨"EmptyChairsModel", "winning", "()I"⟩, ⟨"EmptyChairsModel", "wins", "(I)I"⟩, ⟨"EmptyChairsModel", "swingsOf", "(I)I"⟩, ⟨"EmptyChairsModel", "swings", "(I)I"⟩, ⟨"EmptyChairsModel", "share", "(I)Z"⟩, ⟨"EmptyChairsModel", "lean", "()I"⟩, ⟨"EmptyChairsModel", "carriedBy", "(III)I"⟩, ⟨"EmptyChairsModel", "farFor", "(I)I"⟩, ⟨"EmptyChairsModel", "whyNoTally", "(I)I"⟩, ⟨"EmptyChairsModel", "isTold", "(I)Z"⟩, ⟨"EmptyChairsModel", "laysWays", "(I)V"⟩, ⟨"EmptyChairsModel", "tally", "(I)I"⟩, ⟨"EmptyChairsModel", "sure", "(I)I"⟩, ⟨"EmptyChairsModel", "ask", "(I)I"⟩, ⟨"EmptyChairsModel", "allOdds", "()I"⟩, ⟨"EmptyChairsModel", "isSooner", "(II)Z"⟩, ⟨"EmptyChairsModel", "laysOrder", "()V"⟩, ⟨"EmptyChairsModel", "seek", "()Z"⟩, ⟨"EmptyChairsModel", "seekAt", "(I)I"⟩, ⟨"EmptyChairsModel", "draw", "(I)I"⟩, ⟨"EmptyChairsModel", "anyMinutes", "(I)Z"⟩, ⟨"EmptyChairsModel", "isAny", "()Z"⟩, ⟨"EmptyChairsModel", "does", "(I)Z"⟩, ⟨"EmptyChairsModel", "isSo", "(I)Z"⟩, ⟨"EmptyChairsModel", "doOne", "(I)V"⟩, ⟨"EmptyChairsModel", "doAll", "(II)V"⟩, ⟨"EmptyChairsModel", "runsSessions", "(I)V"⟩, ⟨"EmptyChairsModel", "live", "(I)I"⟩, ⟨"EmptyChairsModel", "lived", "(I)I"⟩, ⟨"EmptyChairsModel", "mean", "(II)Z"⟩, ⟨"EmptyChairsModel", "copy", "(II)V"⟩, ⟨"EmptyChairsModel", "mark", "()I"⟩, ⟨"EmptyChairsModel", "back", "()I"⟩, ⟨"java/lang/Integer", "bitCount", "(I)I"⟩, ⟨"java/util/Arrays", "fill", "([JJ)V"⟩, ⟨"java/util/Arrays", "fill", "([II)V"⟩] : List MethodName).getD mi ⟨"", "", ""⟩
def yB (mi : Nat) : ByteArray := ([prog_2_method_1_code, prog_2_method_2_code, prog_2_method_3_code, prog_2_method_4_code, prog_2_method_5_code, prog_2_method_6_code, prog_2_method_7_code, prog_2_method_8_code, prog_2_method_9_code, prog_2_method_10_code, prog_2_method_11_code, prog_2_method_12_code, prog_2_method_13_code, prog_2_method_14_code, prog_2_method_15_code, prog_2_method_16_code, prog_2_method_17_code, prog_2_method_18_code, prog_3_method_1_code, prog_3_method_2_code, prog_3_method_3_code, prog_3_method_4_code, prog_3_method_5_code, prog_3_method_6_code, prog_3_method_7_code, prog_3_method_8_code, prog_3_method_9_code, prog_3_method_10_code, prog_3_method_11_code, prog_3_method_12_code, prog_3_method_13_code, prog_3_method_14_code, prog_3_method_15_code, prog_4_method_1_code, prog_4_method_2_code, prog_4_method_3_code, prog_4_method_4_code, prog_4_method_5_code, prog_4_method_6_code, prog_4_method_7_code, prog_4_method_8_code, prog_5_method_1_code, prog_5_method_2_code, prog_5_method_3_code, prog_5_method_4_code, prog_5_method_5_code, prog_5_method_6_code, prog_5_method_7_code, prog_5_method_8_code, prog_6_method_1_code, prog_6_method_2_code, prog_6_method_3_code, prog_6_method_4_code, prog_6_method_5_code, prog_6_method_6_code, prog_6_method_7_code, prog_6_method_8_code, prog_6_method_9_code, prog_6_method_10_code, prog_6_method_11_code, prog_6_method_12_code, prog_6_method_13_code, prog_6_method_14_code, prog_7_method_1_code, prog_7_method_2_code, prog_7_method_3_code, prog_8_method_1_code, prog_8_method_2_code, prog_8_method_3_code, prog_8_method_4_code, prog_8_method_5_code, prog_8_method_6_code, prog_8_method_7_code, prog_8_method_8_code, prog_9_method_1_code, prog_9_method_2_code, prog_9_method_3_code, prog_9_method_4_code, prog_9_method_5_code, prog_10_method_1_code, prog_10_method_2_code, prog_10_method_3_code, prog_10_method_4_code, prog_10_method_5_code, prog_11_method_1_code, prog_11_method_2_code, prog_11_method_3_code, prog_11_method_4_code, prog_11_method_5_code, prog_11_method_6_code, prog_11_method_7_code, prog_11_method_8_code, prog_11_method_9_code, prog_11_method_10_code, prog_11_method_11_code, prog_11_method_12_code, prog_11_method_13_code, prog_11_method_14_code, prog_11_method_15_code, prog_11_method_16_code, prog_12_method_1_code, prog_12_method_2_code, prog_12_method_3_code, prog_12_method_4_code, prog_12_method_5_code, prog_12_method_6_code, prog_1_method_1_code, prog_1_method_2_code, prog_1_method_3_code, prog_1_method_4_code, prog_1_method_5_code, prog_1_method_6_code, prog_1_method_7_code, prog_1_method_8_code, prog_1_method_9_code, prog_1_method_10_code, prog_1_method_11_code, prog_1_method_12_code, prog_1_method_13_code, prog_1_method_14_code, prog_1_method_15_code, prog_1_method_16_code, prog_1_method_17_code, prog_1_method_18_code, prog_1_method_19_code, prog_1_method_20_code, prog_1_method_21_code, prog_1_method_22_code, prog_1_method_23_code, prog_1_method_24_code, prog_1_method_25_code, prog_1_method_26_code, prog_1_method_27_code, prog_1_method_28_code, prog_1_method_29_code, prog_1_method_30_code, prog_1_method_31_code, prog_1_method_32_code, prog_1_method_33_code, prog_1_method_34_code, prog_1_method_35_code, prog_1_method_36_code, prog_1_method_37_code, prog_1_method_38_code, prog_1_method_39_code, prog_1_method_40_code, prog_1_method_41_code, prog_1_method_42_code, prog_1_method_43_code, prog_1_method_44_code, prog_1_method_45_code, prog_1_method_46_code, prog_1_method_47_code, prog_1_method_48_code, prog_1_method_49_code, prog_1_method_50_code, prog_1_method_51_code, prog_1_method_52_code, prog_1_method_53_code, prog_1_method_54_code, prog_1_method_55_code, prog_1_method_56_code, prog_1_method_57_code, prog_1_method_58_code, prog_1_method_59_code, prog_1_method_60_code, prog_1_method_61_code, prog_1_method_62_code, prog_1_method_63_code, prog_1_method_64_code, prog_1_method_65_code, prog_1_method_66_code, prog_1_method_67_code, prog_1_method_68_code, prog_1_method_69_code, prog_1_method_70_code, prog_1_method_71_code, prog_1_method_72_code, prog_1_method_73_code, prog_1_method_74_code, prog_1_method_75_code, prog_1_method_76_code, prog_1_method_77_code, prog_1_method_78_code, prog_1_method_79_code, prog_1_method_80_code, prog_1_method_81_code, prog_1_method_82_code, prog_1_method_83_code, prog_14_method_1_code, prog_14_method_3_code, prog_14_method_4_code, prog_14_method_5_code, prog_14_method_6_code, prog_14_method_7_code, prog_14_method_8_code, prog_14_method_9_code, prog_14_method_10_code, prog_14_method_11_code, prog_14_method_12_code, prog_14_method_13_code, prog_14_method_14_code, prog_14_method_15_code, prog_14_method_16_code, prog_14_method_17_code, prog_14_method_18_code, prog_14_method_19_code, prog_14_method_20_code, prog_14_method_21_code, prog_14_method_22_code, prog_14_method_23_code, prog_14_method_24_code, prog_14_method_25_code, prog_14_method_26_code, prog_14_method_27_code, prog_14_method_28_code, prog_14_method_29_code, prog_14_method_30_code, prog_14_method_31_code, prog_14_method_32_code, prog_14_method_33_code, prog_14_method_34_code, prog_14_method_35_code, prog_14_method_36_code, prog_14_method_37_code, prog_14_method_38_code, prog_14_method_39_code, prog_14_method_40_code, prog_14_method_41_code, prog_14_method_42_code, prog_14_method_43_code, prog_14_method_44_code, prog_14_method_45_code, prog_14_method_46_code, prog_14_method_47_code, prog_14_method_48_code, prog_14_method_49_code, prog_14_method_50_code, prog_14_method_51_code, prog_14_method_52_code, prog_14_method_53_code, prog_14_method_54_code, prog_14_method_55_code, prog_14_method_56_code, prog_14_method_57_code, prog_14_method_58_code, prog_14_method_59_code, prog_14_method_60_code, prog_14_method_61_code, prog_14_method_62_code, prog_14_method_63_code, prog_14_method_64_code, prog_14_method_65_code, prog_14_method_66_code, prog_14_method_67_code, prog_14_method_68_code, prog_14_method_69_code, prog_14_method_70_code, prog_14_method_71_code, prog_14_method_72_code, prog_14_method_73_code, prog_14_method_74_code, prog_14_method_75_code, prog_14_method_76_code, prog_14_method_77_code, prog_14_method_78_code, prog_14_method_79_code, prog_14_method_80_code, prog_14_method_81_code, prog_14_method_82_code, prog_14_method_83_code, prog_14_method_84_code, prog_14_method_85_code, prog_14_method_86_code, prog_14_method_87_code, prog_14_method_88_code, prog_14_method_89_code, prog_14_method_90_code, prog_14_method_91_code, prog_14_method_92_code, prog_14_method_93_code, prog_14_method_94_code, prog_14_method_95_code, prog_14_method_96_code, prog_14_method_97_code, prog_14_method_98_code, prog_14_method_99_code, prog_14_method_100_code, prog_14_method_101_code, prog_14_method_102_code, prog_14_method_103_code, prog_14_method_104_code, prog_14_method_105_code, prog_14_method_106_code, prog_14_method_107_code, prog_14_method_108_code, prog_14_method_109_code, prog_14_method_110_code, prog_14_method_111_code, prog_14_method_112_code, prog_14_method_113_code, prog_14_method_114_code, prog_14_method_115_code, prog_14_method_116_code, prog_14_method_117_code, prog_14_method_118_code, prog_14_method_119_code, prog_14_method_120_code, prog_14_method_121_code, prog_14_method_122_code, prog_14_method_123_code, prog_14_method_124_code, prog_14_method_125_code, prog_14_method_126_code, prog_14_method_127_code, prog_14_method_128_code, prog_14_method_129_code, prog_14_method_130_code, prog_14_method_131_code, prog_14_method_132_code, prog_14_method_133_code, prog_14_method_134_code, prog_14_method_135_code, prog_14_method_136_code, prog_14_method_137_code, prog_14_method_138_code, prog_14_method_139_code, prog_14_method_140_code, prog_14_method_141_code, prog_14_method_142_code, prog_14_method_143_code, prog_14_method_144_code, prog_14_method_145_code, prog_14_method_146_code, prog_14_method_147_code, prog_14_method_148_code, prog_14_method_149_code, prog_14_method_150_code, prog_14_method_151_code, prog_14_method_152_code, prog_14_method_153_code, prog_14_method_154_code, prog_14_method_155_code, prog_14_method_156_code, prog_14_method_157_code, prog_14_method_158_code, prog_14_method_159_code, prog_14_method_160_code, prog_14_method_161_code, prog_14_method_162_code, prog_14_method_163_code, prog_14_method_164_code, prog_14_method_165_code, prog_14_method_166_code, prog_14_method_167_code, prog_14_method_168_code, prog_14_method_169_code, prog_14_method_170_code, prog_14_method_171_code, prog_14_method_172_code, prog_14_method_173_code, prog_14_method_174_code, prog_14_method_175_code, prog_14_method_176_code, prog_14_method_177_code, prog_14_method_178_code, prog_14_method_179_code, prog_14_method_180_code, prog_14_method_181_code, prog_15_method_49_code, prog_21_method_101_code, prog_21_method_103_code] : List ByteArray).getD mi default
def yR (mi : Nat) : Option FieldType := ([none, none, none, some .int, some .int, some .int, some .int, some .boolean, some .int, some .int, some .int, some .int, some .int, some .boolean, some .int, some .int, none, some .boolean, none, some .boolean, some .boolean, some .boolean, some .boolean, some .boolean, some .boolean, some .boolean, some .boolean, some .boolean, some .boolean, some .boolean, some .boolean, some .boolean, some .boolean, none, none, none, some .boolean, some .boolean, none, some .int, some .boolean, none, some .int, none, none, none, none, some .boolean, some .boolean, none, none, none, none, none, some .int, some .int, some .int, some .int, some .int, some .int, some .boolean, some .int, some .boolean, none, none, none, none, some .boolean, some .boolean, some .boolean, some .boolean, some .boolean, some .boolean, some .boolean, none, some .int, some .int, some .int, some .int, none, none, some .boolean, none, some .int, none, some .boolean, none, none, none, none, none, none, some .boolean, some .boolean, some .boolean, some .boolean, some .boolean, some .boolean, some .boolean, some .boolean, none, some .boolean, none, some .boolean, none, some .long, none, some .int, some .long, some .long, some .int, some .int, some .int, some .boolean, some .boolean, some .boolean, some .long, some .boolean, some .boolean, some .boolean, some .boolean, some .boolean, some .boolean, none, none, some .int, some .int, some .boolean, some .boolean, some .long, some .boolean, some .int, some .int, some .int, some .int, some .int, some .int, some .int, some .int, some .int, some .int, some .int, some .int, some .int, some .int, some .int, some .int, some .int, some .int, some .boolean, some .int, some .boolean, some .boolean, some .int, some .int, some .boolean, some .int, some .boolean, some .int, some .int, some .int, some .int, some .int, some .int, some .int, some .int, some .int, some .int, some .int, some .int, some .int, some .int, some .int, some .int, some .int, some .boolean, some .int, some .int, some .int, some .int, some .int, some .int, some .boolean, some .int, some .int, some .int, some .boolean, some .int, some .int, none, some .int, some .long, some .long, some .int, some .boolean, some .boolean, some .boolean, some .long, some .boolean, some .int, some .int, some .boolean, some .long, some .boolean, some .long, some .boolean, some .boolean, some .int, some .int, some .boolean, some .boolean, some .boolean, none, some .boolean, some .long, some .boolean, some .boolean, some .boolean, some .boolean, some .boolean, some .boolean, some .boolean, some .boolean, some .boolean, some .boolean, some .boolean, some .boolean, some .boolean, some .boolean, some .boolean, some .boolean, some .boolean, some .boolean, some .boolean, some .boolean, some .boolean, some .int, some .int, some .boolean, some .boolean, some .boolean, none, none, none, some .int, some .int, some .boolean, some .int, none, some .boolean, some .boolean, some .int, none, some .int, some .boolean, some .int, some .int, some .int, none, none, none, none, some .int, none, none, none, some .int, none, none, none, some .int, some .boolean, some .boolean, some .boolean, some .boolean, some .boolean, some .boolean, some .boolean, some .int, some .int, some .int, some .int, some .int, some .int, some .int, some .int, some .int, some .int, some .int, some .int, some .int, some .boolean, some .int, some .int, some .int, some .int, some .int, none, some .boolean, some .int, some .boolean, none, some .int, some .boolean, some .boolean, some .int, some .int, some .boolean, some .boolean, some .int, some .boolean, none, none, some .boolean, some .int, some .int, some .boolean, some .int, some .int, some .int, some .int, some .int, none, some .int, some .int, some .int, some .int, some .int, some .int, some .int, some .int, some .int, some .int, some .int, some .int, some .boolean, some .int, some .int, some .int, some .int, some .boolean, some .int, some .int, some .int, some .int, some .boolean, none, some .int, some .int, some .int, some .int, some .boolean, none, some .boolean, some .int, some .int, some .boolean, some .boolean, some .boolean, some .boolean, none, none, none, some .int, some .int, some .boolean, none, some .int, some .int, some .int, none, none] : List (Option FieldType)).getD mi none
def yO (mi : Nat) : Nat := ([0, 0, 0, 0, 0, 0, 0, 0, 0, 0, 0, 0, 0, 0, 0, 0, 0, 0, 1, 1, 1, 1, 1, 1, 1, 1, 1, 1, 1, 1, 1, 1, 1, 2, 2, 2, 2, 2, 2, 2, 2, 3, 3, 3, 3, 3, 3, 3, 3, 4, 4, 4, 4, 4, 4, 4, 4, 4, 4, 4, 4, 4, 4, 5, 5, 5, 6, 6, 6, 6, 6, 6, 6, 6, 7, 7, 7, 7, 7, 8, 8, 8, 8, 8, 9, 9, 9, 9, 9, 9, 9, 9, 9, 9, 9, 9, 9, 9, 9, 9, 10, 10, 10, 10, 10, 10, 11, 11, 11, 11, 11, 11, 11, 11, 11, 11, 11, 11, 11, 11, 11, 11, 11, 11, 11, 11, 11, 11, 11, 11, 11, 11, 11, 11, 11, 11, 11, 11, 11, 11, 11, 11, 11, 11, 11, 11, 11, 11, 11, 11, 11, 11, 11, 11, 11, 11, 11, 11, 11, 11, 11, 11, 11, 11, 11, 11, 11, 11, 11, 11, 11, 11, 11, 11, 11, 11, 11, 11, 11, 11, 11, 11, 11, 11, 11, 11, 11, 11, 11, 12, 12, 12, 12, 12, 12, 12, 12, 12, 12, 12, 12, 12, 12, 12, 12, 12, 12, 12, 12, 12, 12, 12, 12, 12, 12, 12, 12, 12, 12, 12, 12, 12, 12, 12, 12, 12, 12, 12, 12, 12, 12, 12, 12, 12, 12, 12, 12, 12, 12, 12, 12, 12, 12, 12, 12, 12, 12, 12, 12, 12, 12, 12, 12, 12, 12, 12, 12, 12, 12, 12, 12, 12, 12, 12, 12, 12, 12, 12, 12, 12, 12, 12, 12, 12, 12, 12, 12, 12, 12, 12, 12, 12, 12, 12, 12, 12, 12, 12, 12, 12, 12, 12, 12, 12, 12, 12, 12, 12, 12, 12, 12, 12, 12, 12, 12, 12, 12, 12, 12, 12, 12, 12, 12, 12, 12, 12, 12, 12, 12, 12, 12, 12, 12, 12, 12, 12, 12, 12, 12, 12, 12, 12, 12, 12, 12, 12, 12, 12, 12, 12, 12, 12, 12, 12, 12, 12, 12, 12, 12, 12, 12, 12, 12, 12, 12, 12, 12, 12, 12, 12, 12, 12, 12, 12, 12, 12, 12, 12, 12, 13, 14, 14] : List Nat).getD mi 99
def yS (mi : Nat) : Bool := ([false, false, false, true, false, false, false, false, false, false, false, false, false, false, false, false, false, false, false, false, false, false, false, false, false, false, false, false, false, false, false, false, false, false, false, false, false, false, false, false, false, false, false, false, false, false, false, false, true, false, false, false, false, false, false, false, false, false, false, false, false, false, false, false, false, false, false, false, false, true, false, false, false, false, false, false, false, false, false, false, false, false, false, false, false, false, false, false, false, false, false, false, false, false, false, false, false, false, false, false, false, false, false, false, false, false, false, false, false, false, false, false, false, false, false, false, true, true, true, false, false, false, true, false, false, false, false, false, false, false, false, false, false, false, false, false, false, false, false, false, false, false, false, false, false, false, false, false, false, false, false, false, false, false, false, false, false, false, false, false, false, false, false, false, false, false, false, false, false, false, false, false, false, false, false, false, false, false, false, false, false, false, false, false, false, false, false, false, false, false, false, false, false, false, false, true, false, true, false, false, false, false, false, false, false, false, true, true, false, true, true, false, false, false, true, false, false, false, false, false, false, false, false, false, false, false, false, false, false, false, false, false, false, false, false, false, false, false, false, false, false, false, false, false, false, false, false, false, false, false, false, false, false, false, false, false, false, false, false, false, false, false, false, false, false, false, false, false, false, false, false, false, false, false, false, false, false, false, false, false, false, false, false, false, false, false, false, false, false, false, false, false, false, false, false, false, false, false, false, false, false, false, false, false, false, false, false, true, false, false, false, false, false, true, false, false, false, false, false, false, false, false, false, false, false, false, false, false, false, false, false, false, false, false, false, false, false, false, false, false, false, false, false, false, false, false, false, false, false, false, false, false, false, false, false, false, false, false, false, false, false, false, false, false, false, false, false, false, false, true, true, true] : List Bool).getD mi false
def yA (mi : Nat) : Nat := ([0, 0, 1, 3, 1, 1, 1, 1, 0, 0, 0, 1, 2, 1, 3, 0, 1, 2, 2, 1, 0, 1, 0, 0, 0, 4, 0, 0, 0, 0, 0, 1, 1, 0, 0, 1, 0, 0, 0, 1, 1, 2, 2, 3, 2, 0, 2, 1, 3, 1, 2, 3, 1, 0, 2, 1, 0, 0, 1, 0, 1, 1, 1, 0, 0, 1, 2, 1, 0, 1, 1, 2, 1, 2, 2, 3, 4, 1, 2, 1, 2, 4, 2, 1, 0, 0, 1, 1, 0, 0, 0, 0, 0, 0, 1, 1, 1, 2, 0, 0, 0, 0, 2, 2, 2, 1, 0, 0, 0, 0, 1, 1, 1, 0, 1, 2, 2, 3, 1, 1, 1, 1, 2, 0, 1, 2, 2, 3, 3, 2, 5, 5, 1, 1, 1, 1, 1, 1, 2, 2, 2, 1, 1, 1, 0, 1, 1, 1, 1, 2, 1, 2, 2, 2, 0, 2, 2, 3, 2, 1, 1, 1, 2, 0, 1, 1, 1, 1, 2, 4, 3, 3, 0, 1, 1, 1, 0, 3, 1, 1, 1, 1, 0, 1, 1, 1, 2, 0, 0, 0, 0, 0, 0, 1, 1, 3, 2, 2, 3, 1, 2, 3, 2, 5, 2, 1, 2, 1, 1, 1, 1, 1, 0, 1, 6, 1, 0, 0, 0, 0, 0, 0, 0, 0, 0, 0, 0, 0, 0, 0, 0, 0, 0, 0, 0, 0, 0, 0, 0, 0, 0, 2, 0, 1, 2, 3, 1, 5, 1, 2, 0, 1, 1, 2, 0, 2, 2, 2, 3, 0, 0, 0, 1, 0, 0, 0, 1, 1, 1, 1, 1, 1, 1, 1, 1, 1, 1, 1, 1, 1, 0, 0, 1, 0, 1, 1, 2, 2, 2, 1, 1, 1, 1, 0, 1, 1, 1, 1, 0, 1, 2, 1, 1, 2, 2, 2, 0, 2, 2, 2, 3, 0, 0, 1, 2, 1, 2, 2, 1, 1, 0, 2, 1, 0, 1, 2, 1, 1, 1, 1, 2, 4, 4, 3, 3, 1, 0, 1, 1, 1, 1, 0, 3, 1, 1, 1, 1, 1, 1, 1, 0, 2, 0, 0, 1, 1, 1, 0, 1, 1, 1, 2, 1, 1, 1, 2, 2, 0, 0, 1, 2, 2] : List Nat).getD mi 0
def YOk (mi : Nat) : Prop := Cond.code (yN mi) (yB mi) (mtab mi).2 (yR mi) ∈ lw_tbl ∧ (yN mi).cls = cN (yO mi) ∧ plainName (yN mi).cls = true ∧ ((yN mi).cls ≠ "java/lang/invoke/MethodHandle" ∧ (yN mi).cls ≠ "java/lang/invoke/VarHandle" ∧ (parseMethodDescriptor (yN mi).desc).map (fun d => d.parameters.length) = some (yA mi)) ∧ Cond.initialized (yN mi).cls ∈ lw_tbl ∧ (yS mi = true → Cond.static (yN mi) ∈ lw_tbl) ∧ (yS mi = false → Cond.instanceMethod (yN mi) ∈ lw_tbl ∧ ((yN mi).name = "<init>" ∨ Cond.selects (yN mi).cls (yN mi) (yN mi) ∈ lw_tbl))
theorem pd0 : (parseMethodDescriptor "()I").map (fun d => d.parameters.length) = some 0 := by decide +kernel
theorem pd1 : (parseMethodDescriptor "()J").map (fun d => d.parameters.length) = some 0 := by decide +kernel
theorem pd2 : (parseMethodDescriptor "()V").map (fun d => d.parameters.length) = some 0 := by decide +kernel
theorem pd3 : (parseMethodDescriptor "()Z").map (fun d => d.parameters.length) = some 0 := by decide +kernel
theorem pd4 : (parseMethodDescriptor "(I)I").map (fun d => d.parameters.length) = some 1 := by decide +kernel
theorem pd5 : (parseMethodDescriptor "(I)V").map (fun d => d.parameters.length) = some 1 := by decide +kernel
theorem pd6 : (parseMethodDescriptor "(I)Z").map (fun d => d.parameters.length) = some 1 := by decide +kernel
theorem pd7 : (parseMethodDescriptor "(II)I").map (fun d => d.parameters.length) = some 2 := by decide +kernel
theorem pd8 : (parseMethodDescriptor "(II)J").map (fun d => d.parameters.length) = some 2 := by decide +kernel
theorem pd9 : (parseMethodDescriptor "(II)V").map (fun d => d.parameters.length) = some 2 := by decide +kernel
theorem pd10 : (parseMethodDescriptor "(II)Z").map (fun d => d.parameters.length) = some 2 := by decide +kernel
theorem pd11 : (parseMethodDescriptor "(III)I").map (fun d => d.parameters.length) = some 3 := by decide +kernel
theorem pd12 : (parseMethodDescriptor "(III)V").map (fun d => d.parameters.length) = some 3 := by decide +kernel
theorem pd13 : (parseMethodDescriptor "(III)Z").map (fun d => d.parameters.length) = some 3 := by decide +kernel
theorem pd14 : (parseMethodDescriptor "(IIII)I").map (fun d => d.parameters.length) = some 4 := by decide +kernel
theorem pd15 : (parseMethodDescriptor "(IIII)Z").map (fun d => d.parameters.length) = some 4 := by decide +kernel
theorem pd16 : (parseMethodDescriptor "(IIIII)I").map (fun d => d.parameters.length) = some 5 := by decide +kernel
theorem pd17 : (parseMethodDescriptor "(IIIII)Z").map (fun d => d.parameters.length) = some 5 := by decide +kernel
theorem pd18 : (parseMethodDescriptor "(IIIIII)J").map (fun d => d.parameters.length) = some 6 := by decide +kernel
theorem pd19 : (parseMethodDescriptor "(IIJ)Z").map (fun d => d.parameters.length) = some 3 := by decide +kernel
theorem pd20 : (parseMethodDescriptor "(IILEmptyChairs$Scale;)I").map (fun d => d.parameters.length) = some 3 := by decide +kernel
theorem pd21 : (parseMethodDescriptor "(IJ)J").map (fun d => d.parameters.length) = some 2 := by decide +kernel
theorem pd22 : (parseMethodDescriptor "(IJ)V").map (fun d => d.parameters.length) = some 2 := by decide +kernel
theorem pd23 : (parseMethodDescriptor "(ILEmptyChairs$Member;)V").map (fun d => d.parameters.length) = some 2 := by decide +kernel
theorem pd24 : (parseMethodDescriptor "(ILEmptyChairs$Scale;)I").map (fun d => d.parameters.length) = some 2 := by decide +kernel
theorem pd25 : (parseMethodDescriptor "(IZ)I").map (fun d => d.parameters.length) = some 2 := by decide +kernel
theorem pd26 : (parseMethodDescriptor "(IZ)Z").map (fun d => d.parameters.length) = some 2 := by decide +kernel
theorem pd27 : (parseMethodDescriptor "(J)I").map (fun d => d.parameters.length) = some 1 := by decide +kernel
theorem pd28 : (parseMethodDescriptor "(J)J").map (fun d => d.parameters.length) = some 1 := by decide +kernel
theorem pd29 : (parseMethodDescriptor "(J)Z").map (fun d => d.parameters.length) = some 1 := by decide +kernel
theorem pd30 : (parseMethodDescriptor "(JJ)J").map (fun d => d.parameters.length) = some 2 := by decide +kernel
theorem pd31 : (parseMethodDescriptor "(JJ)Z").map (fun d => d.parameters.length) = some 2 := by decide +kernel
theorem pd32 : (parseMethodDescriptor "(JJJ)Z").map (fun d => d.parameters.length) = some 3 := by decide +kernel
theorem pd33 : (parseMethodDescriptor "(J[JI)I").map (fun d => d.parameters.length) = some 3 := by decide +kernel
theorem pd34 : (parseMethodDescriptor "(LEmptyChairs$Assembly;)I").map (fun d => d.parameters.length) = some 1 := by decide +kernel
theorem pd35 : (parseMethodDescriptor "(LEmptyChairs$Assembly;)V").map (fun d => d.parameters.length) = some 1 := by decide +kernel
theorem pd36 : (parseMethodDescriptor "(LEmptyChairs$Assembly;I)I").map (fun d => d.parameters.length) = some 2 := by decide +kernel
theorem pd37 : (parseMethodDescriptor "(LEmptyChairs$Assembly;I)V").map (fun d => d.parameters.length) = some 2 := by decide +kernel
theorem pd38 : (parseMethodDescriptor "(LEmptyChairs$Assembly;III)I").map (fun d => d.parameters.length) = some 4 := by decide +kernel
theorem pd39 : (parseMethodDescriptor "(LEmptyChairs$Assembly;IILEmptyChairs$Tray;)Z").map (fun d => d.parameters.length) = some 4 := by decide +kernel
theorem pd40 : (parseMethodDescriptor "(LEmptyChairs$Assembly;IZ)I").map (fun d => d.parameters.length) = some 3 := by decide +kernel
theorem pd41 : (parseMethodDescriptor "(LEmptyChairs$Assembly;LEmptyChairs$Tray;)V").map (fun d => d.parameters.length) = some 2 := by decide +kernel
theorem pd42 : (parseMethodDescriptor "(LEmptyChairs$Member;)V").map (fun d => d.parameters.length) = some 1 := by decide +kernel
theorem pd43 : (parseMethodDescriptor "(LEmptyChairs$Member;I)I").map (fun d => d.parameters.length) = some 2 := by decide +kernel
theorem pd44 : (parseMethodDescriptor "(LEmptyChairs$Scale;)V").map (fun d => d.parameters.length) = some 1 := by decide +kernel
theorem pd45 : (parseMethodDescriptor "(LEmptyChairs$Scale;LEmptyChairs$Assembly;)V").map (fun d => d.parameters.length) = some 2 := by decide +kernel
theorem pd46 : (parseMethodDescriptor "(LEmptyChairs$Script;)V").map (fun d => d.parameters.length) = some 1 := by decide +kernel
theorem pd47 : (parseMethodDescriptor "(LEmptyChairs$Tape;LEmptyChairs$Assembly;)V").map (fun d => d.parameters.length) = some 2 := by decide +kernel
theorem pd48 : (parseMethodDescriptor "(Z)V").map (fun d => d.parameters.length) = some 1 := by decide +kernel
theorem pd49 : (parseMethodDescriptor "(Z)Z").map (fun d => d.parameters.length) = some 1 := by decide +kernel
theorem pd50 : (parseMethodDescriptor "(ZII)I").map (fun d => d.parameters.length) = some 3 := by decide +kernel
theorem pd51 : (parseMethodDescriptor "([I)V").map (fun d => d.parameters.length) = some 1 := by decide +kernel
theorem pd52 : (parseMethodDescriptor "([II)V").map (fun d => d.parameters.length) = some 2 := by decide +kernel
theorem pd53 : (parseMethodDescriptor "([JJ)V").map (fun d => d.parameters.length) = some 2 := by decide +kernel
theorem pn0 : plainName "EmptyChairs" = true := by decide +kernel
theorem ph0 : "EmptyChairs" ≠ "java/lang/invoke/MethodHandle" := by decide +kernel
theorem pv0 : "EmptyChairs" ≠ "java/lang/invoke/VarHandle" := by decide +kernel
theorem pi0 : Cond.initialized "EmptyChairs" ∈ lw_tbl := (mt1 _ (List.mem_of_getElem? (i := 1) (by decide +kernel)))
theorem pn1 : plainName "EmptyChairs$Assembly" = true := by decide +kernel
theorem ph1 : "EmptyChairs$Assembly" ≠ "java/lang/invoke/MethodHandle" := by decide +kernel
theorem pv1 : "EmptyChairs$Assembly" ≠ "java/lang/invoke/VarHandle" := by decide +kernel
theorem pi1 : Cond.initialized "EmptyChairs$Assembly" ∈ lw_tbl := (mt1 _ (List.mem_of_getElem? (i := 8) (by decide +kernel)))
theorem pn2 : plainName "EmptyChairs$AssemblyParser" = true := by decide +kernel
theorem ph2 : "EmptyChairs$AssemblyParser" ≠ "java/lang/invoke/MethodHandle" := by decide +kernel
theorem pv2 : "EmptyChairs$AssemblyParser" ≠ "java/lang/invoke/VarHandle" := by decide +kernel
theorem pi2 : Cond.initialized "EmptyChairs$AssemblyParser" ∈ lw_tbl := (mt1 _ (List.mem_of_getElem? (i := 15) (by decide +kernel)))
theorem pn3 : plainName "EmptyChairs$Member" = true := by decide +kernel
theorem ph3 : "EmptyChairs$Member" ≠ "java/lang/invoke/MethodHandle" := by decide +kernel
theorem pv3 : "EmptyChairs$Member" ≠ "java/lang/invoke/VarHandle" := by decide +kernel
theorem pi3 : Cond.initialized "EmptyChairs$Member" ∈ lw_tbl := (mt1 _ (List.mem_of_getElem? (i := 10) (by decide +kernel)))
theorem pn4 : plainName "EmptyChairs$Runner" = true := by decide +kernel
theorem ph4 : "EmptyChairs$Runner" ≠ "java/lang/invoke/MethodHandle" := by decide +kernel
theorem pv4 : "EmptyChairs$Runner" ≠ "java/lang/invoke/VarHandle" := by decide +kernel
theorem pi4 : Cond.initialized "EmptyChairs$Runner" ∈ lw_tbl := (mt1 _ (List.mem_of_getElem? (i := 17) (by decide +kernel)))
theorem pn5 : plainName "EmptyChairs$Scale" = true := by decide +kernel
theorem ph5 : "EmptyChairs$Scale" ≠ "java/lang/invoke/MethodHandle" := by decide +kernel
theorem pv5 : "EmptyChairs$Scale" ≠ "java/lang/invoke/VarHandle" := by decide +kernel
theorem pi5 : Cond.initialized "EmptyChairs$Scale" ∈ lw_tbl := (mt1 _ (List.mem_of_getElem? (i := 12) (by decide +kernel)))
theorem pn6 : plainName "EmptyChairs$Script" = true := by decide +kernel
theorem ph6 : "EmptyChairs$Script" ≠ "java/lang/invoke/MethodHandle" := by decide +kernel
theorem pv6 : "EmptyChairs$Script" ≠ "java/lang/invoke/VarHandle" := by decide +kernel
theorem pi6 : Cond.initialized "EmptyChairs$Script" ∈ lw_tbl := (mt1 _ (List.mem_of_getElem? (i := 9) (by decide +kernel)))
theorem pn7 : plainName "EmptyChairs$ScriptParser" = true := by decide +kernel
theorem ph7 : "EmptyChairs$ScriptParser" ≠ "java/lang/invoke/MethodHandle" := by decide +kernel
theorem pv7 : "EmptyChairs$ScriptParser" ≠ "java/lang/invoke/VarHandle" := by decide +kernel
theorem pi7 : Cond.initialized "EmptyChairs$ScriptParser" ∈ lw_tbl := (mt1 _ (List.mem_of_getElem? (i := 16) (by decide +kernel)))
theorem pn8 : plainName "EmptyChairs$Strategy" = true := by decide +kernel
theorem ph8 : "EmptyChairs$Strategy" ≠ "java/lang/invoke/MethodHandle" := by decide +kernel
theorem pv8 : "EmptyChairs$Strategy" ≠ "java/lang/invoke/VarHandle" := by decide +kernel
theorem pi8 : Cond.initialized "EmptyChairs$Strategy" ∈ lw_tbl := (mt1 _ (List.mem_of_getElem? (i := 13) (by decide +kernel)))
theorem pn9 : plainName "EmptyChairs$Tallies" = true := by decide +kernel
theorem ph9 : "EmptyChairs$Tallies" ≠ "java/lang/invoke/MethodHandle" := by decide +kernel
theorem pv9 : "EmptyChairs$Tallies" ≠ "java/lang/invoke/VarHandle" := by decide +kernel
theorem pi9 : Cond.initialized "EmptyChairs$Tallies" ∈ lw_tbl := (mt1 _ (List.mem_of_getElem? (i := 14) (by decide +kernel)))
theorem pn10 : plainName "EmptyChairs$Tape" = true := by decide +kernel
theorem ph10 : "EmptyChairs$Tape" ≠ "java/lang/invoke/MethodHandle" := by decide +kernel
theorem pv10 : "EmptyChairs$Tape" ≠ "java/lang/invoke/VarHandle" := by decide +kernel
theorem pi10 : Cond.initialized "EmptyChairs$Tape" ∈ lw_tbl := (mt1 _ (List.mem_of_getElem? (i := 3) (by decide +kernel)))
theorem pn11 : plainName "EmptyChairs$Tray" = true := by decide +kernel
theorem ph11 : "EmptyChairs$Tray" ≠ "java/lang/invoke/MethodHandle" := by decide +kernel
theorem pv11 : "EmptyChairs$Tray" ≠ "java/lang/invoke/VarHandle" := by decide +kernel
theorem pi11 : Cond.initialized "EmptyChairs$Tray" ∈ lw_tbl := (mt1 _ (List.mem_of_getElem? (i := 2) (by decide +kernel)))
theorem pn12 : plainName "EmptyChairsModel" = true := by decide +kernel
theorem ph12 : "EmptyChairsModel" ≠ "java/lang/invoke/MethodHandle" := by decide +kernel
theorem pv12 : "EmptyChairsModel" ≠ "java/lang/invoke/VarHandle" := by decide +kernel
theorem pi12 : Cond.initialized "EmptyChairsModel" ∈ lw_tbl := (mt1 _ (List.mem_of_getElem? (i := 18) (by decide +kernel)))
theorem pn13 : plainName "java/lang/Integer" = true := by decide +kernel
theorem ph13 : "java/lang/Integer" ≠ "java/lang/invoke/MethodHandle" := by decide +kernel
theorem pv13 : "java/lang/Integer" ≠ "java/lang/invoke/VarHandle" := by decide +kernel
theorem pi13 : Cond.initialized "java/lang/Integer" ∈ lw_tbl := (mt1 _ (List.mem_of_getElem? (i := 21) (by decide +kernel)))
theorem pn14 : plainName "java/util/Arrays" = true := by decide +kernel
theorem ph14 : "java/util/Arrays" ≠ "java/lang/invoke/MethodHandle" := by decide +kernel
theorem pv14 : "java/util/Arrays" ≠ "java/lang/invoke/VarHandle" := by decide +kernel
theorem pi14 : Cond.initialized "java/util/Arrays" ∈ lw_tbl := (mt1 _ (List.mem_of_getElem? (i := 19) (by decide +kernel)))
theorem yc0 : Cond.code ⟨"EmptyChairs$Assembly", "<init>", "()V"⟩ prog_2_method_1_code 2 (none) ∈ lw_tbl := (mt1 _ (List.mem_of_getElem? (i := 166) rfl))
theorem yi0 : Cond.instanceMethod ⟨"EmptyChairs$Assembly", "<init>", "()V"⟩ ∈ lw_tbl := (mt1 _ (List.mem_of_getElem? (i := 165) rfl))
theorem yok0 : YOk 0 := ⟨yc0, rfl, pn1, ⟨ph1, pv1, pd2⟩, pi1, fun h => absurd h (by decide), fun _ => ⟨yi0, Or.inl rfl⟩⟩
theorem yc1 : Cond.code ⟨"EmptyChairs$Assembly", "reset", "()V"⟩ prog_2_method_2_code 1 (none) ∈ lw_tbl := (mt3 _ (List.mem_of_getElem? (i := 221) rfl))
theorem yi1 : Cond.instanceMethod ⟨"EmptyChairs$Assembly", "reset", "()V"⟩ ∈ lw_tbl := (mt3 _ (List.mem_of_getElem? (i := 219) rfl))
theorem yv1 : Cond.selects "EmptyChairs$Assembly" ⟨"EmptyChairs$Assembly", "reset", "()V"⟩ ⟨"EmptyChairs$Assembly", "reset", "()V"⟩ ∈ lw_tbl := (mt3 _ (List.mem_of_getElem? (i := 220) rfl))
theorem yok1 : YOk 1 := ⟨yc1, rfl, pn1, ⟨ph1, pv1, pd2⟩, pi1, fun h => absurd h (by decide), fun _ => ⟨yi1, Or.inr yv1⟩⟩
theorem yc2 : Cond.code ⟨"EmptyChairs$Assembly", "copyFrom", "(LEmptyChairs$Assembly;)V"⟩ prog_2_method_3_code 3 (none) ∈ lw_tbl := (mt4 _ (List.mem_of_getElem? (i := 123) rfl))
theorem yi2 : Cond.instanceMethod ⟨"EmptyChairs$Assembly", "copyFrom", "(LEmptyChairs$Assembly;)V"⟩ ∈ lw_tbl := (mt4 _ (List.mem_of_getElem? (i := 121) rfl))
theorem yv2 : Cond.selects "EmptyChairs$Assembly" ⟨"EmptyChairs$Assembly", "copyFrom", "(LEmptyChairs$Assembly;)V"⟩ ⟨"EmptyChairs$Assembly", "copyFrom", "(LEmptyChairs$Assembly;)V"⟩ ∈ lw_tbl := (mt4 _ (List.mem_of_getElem? (i := 122) rfl))
theorem yok2 : YOk 2 := ⟨yc2, rfl, pn1, ⟨ph1, pv1, pd35⟩, pi1, fun h => absurd h (by decide), fun _ => ⟨yi2, Or.inr yv2⟩⟩
theorem yc3 : Cond.code ⟨"EmptyChairs$Assembly", "find", "(J[JI)I"⟩ prog_2_method_4_code 5 (some .int) ∈ lw_tbl := (mt4 _ (List.mem_of_getElem? (i := 61) rfl))
theorem ys3 : Cond.static ⟨"EmptyChairs$Assembly", "find", "(J[JI)I"⟩ ∈ lw_tbl := (mt4 _ (List.mem_of_getElem? (i := 60) rfl))
theorem yok3 : YOk 3 := ⟨yc3, rfl, pn1, ⟨ph1, pv1, pd33⟩, pi1, fun _ => ys3, fun h => absurd h (by decide)⟩
theorem yc4 : Cond.code ⟨"EmptyChairs$Assembly", "findParty", "(J)I"⟩ prog_2_method_5_code 3 (some .int) ∈ lw_tbl := (mt4 _ (List.mem_of_getElem? (i := 58) rfl))
theorem yi4 : Cond.instanceMethod ⟨"EmptyChairs$Assembly", "findParty", "(J)I"⟩ ∈ lw_tbl := (mt4 _ (List.mem_of_getElem? (i := 56) rfl))
theorem yv4 : Cond.selects "EmptyChairs$Assembly" ⟨"EmptyChairs$Assembly", "findParty", "(J)I"⟩ ⟨"EmptyChairs$Assembly", "findParty", "(J)I"⟩ ∈ lw_tbl := (mt4 _ (List.mem_of_getElem? (i := 57) rfl))
theorem yok4 : YOk 4 := ⟨yc4, rfl, pn1, ⟨ph1, pv1, pd27⟩, pi1, fun h => absurd h (by decide), fun _ => ⟨yi4, Or.inr yv4⟩⟩
theorem yc5 : Cond.code ⟨"EmptyChairs$Assembly", "findMotion", "(J)I"⟩ prog_2_method_6_code 3 (some .int) ∈ lw_tbl := (mt4 _ (List.mem_of_getElem? (i := 69) rfl))
theorem yi5 : Cond.instanceMethod ⟨"EmptyChairs$Assembly", "findMotion", "(J)I"⟩ ∈ lw_tbl := (mt4 _ (List.mem_of_getElem? (i := 67) rfl))
theorem yv5 : Cond.selects "EmptyChairs$Assembly" ⟨"EmptyChairs$Assembly", "findMotion", "(J)I"⟩ ⟨"EmptyChairs$Assembly", "findMotion", "(J)I"⟩ ∈ lw_tbl := (mt4 _ (List.mem_of_getElem? (i := 68) rfl))
theorem yok5 : YOk 5 := ⟨yc5, rfl, pn1, ⟨ph1, pv1, pd27⟩, pi1, fun h => absurd h (by decide), fun _ => ⟨yi5, Or.inr yv5⟩⟩
theorem yc6 : Cond.code ⟨"EmptyChairs$Assembly", "findMember", "(J)I"⟩ prog_2_method_7_code 4 (some .int) ∈ lw_tbl := (mt4 _ (List.mem_of_getElem? (i := 65) rfl))
theorem yi6 : Cond.instanceMethod ⟨"EmptyChairs$Assembly", "findMember", "(J)I"⟩ ∈ lw_tbl := (mt4 _ (List.mem_of_getElem? (i := 63) rfl))
theorem yv6 : Cond.selects "EmptyChairs$Assembly" ⟨"EmptyChairs$Assembly", "findMember", "(J)I"⟩ ⟨"EmptyChairs$Assembly", "findMember", "(J)I"⟩ ∈ lw_tbl := (mt4 _ (List.mem_of_getElem? (i := 64) rfl))
theorem yok6 : YOk 6 := ⟨yc6, rfl, pn1, ⟨ph1, pv1, pd27⟩, pi1, fun h => absurd h (by decide), fun _ => ⟨yi6, Or.inr yv6⟩⟩
theorem yc7 : Cond.code ⟨"EmptyChairs$Assembly", "hasName", "(J)Z"⟩ prog_2_method_8_code 3 (some .boolean) ∈ lw_tbl := (mt4 _ (List.mem_of_getElem? (i := 54) rfl))
theorem yi7 : Cond.instanceMethod ⟨"EmptyChairs$Assembly", "hasName", "(J)Z"⟩ ∈ lw_tbl := (mt4 _ (List.mem_of_getElem? (i := 52) rfl))
theorem yv7 : Cond.selects "EmptyChairs$Assembly" ⟨"EmptyChairs$Assembly", "hasName", "(J)Z"⟩ ⟨"EmptyChairs$Assembly", "hasName", "(J)Z"⟩ ∈ lw_tbl := (mt4 _ (List.mem_of_getElem? (i := 53) rfl))
theorem yok7 : YOk 7 := ⟨yc7, rfl, pn1, ⟨ph1, pv1, pd29⟩, pi1, fun h => absurd h (by decide), fun _ => ⟨yi7, Or.inr yv7⟩⟩
theorem yc8 : Cond.code ⟨"EmptyChairs$Assembly", "deadSet", "()I"⟩ prog_2_method_9_code 3 (some .int) ∈ lw_tbl := (mt5 _ (List.mem_of_getElem? (i := 4) rfl))
theorem yi8 : Cond.instanceMethod ⟨"EmptyChairs$Assembly", "deadSet", "()I"⟩ ∈ lw_tbl := (mt5 _ (List.mem_of_getElem? (i := 2) rfl))
theorem yv8 : Cond.selects "EmptyChairs$Assembly" ⟨"EmptyChairs$Assembly", "deadSet", "()I"⟩ ⟨"EmptyChairs$Assembly", "deadSet", "()I"⟩ ∈ lw_tbl := (mt5 _ (List.mem_of_getElem? (i := 3) rfl))
theorem yok8 : YOk 8 := ⟨yc8, rfl, pn1, ⟨ph1, pv1, pd0⟩, pi1, fun h => absurd h (by decide), fun _ => ⟨yi8, Or.inr yv8⟩⟩
theorem yc9 : Cond.code ⟨"EmptyChairs$Assembly", "sickSet", "()I"⟩ prog_2_method_10_code 3 (some .int) ∈ lw_tbl := (mt5 _ (List.mem_of_getElem? (i := 12) rfl))
theorem yi9 : Cond.instanceMethod ⟨"EmptyChairs$Assembly", "sickSet", "()I"⟩ ∈ lw_tbl := (mt5 _ (List.mem_of_getElem? (i := 10) rfl))
theorem yv9 : Cond.selects "EmptyChairs$Assembly" ⟨"EmptyChairs$Assembly", "sickSet", "()I"⟩ ⟨"EmptyChairs$Assembly", "sickSet", "()I"⟩ ∈ lw_tbl := (mt5 _ (List.mem_of_getElem? (i := 11) rfl))
theorem yok9 : YOk 9 := ⟨yc9, rfl, pn1, ⟨ph1, pv1, pd0⟩, pi1, fun h => absurd h (by decide), fun _ => ⟨yi9, Or.inr yv9⟩⟩
theorem yc10 : Cond.code ⟨"EmptyChairs$Assembly", "walkers", "()I"⟩ prog_2_method_11_code 1 (some .int) ∈ lw_tbl := (mt5 _ (List.mem_of_getElem? (i := 206) rfl))
theorem yi10 : Cond.instanceMethod ⟨"EmptyChairs$Assembly", "walkers", "()I"⟩ ∈ lw_tbl := (mt5 _ (List.mem_of_getElem? (i := 204) rfl))
theorem yv10 : Cond.selects "EmptyChairs$Assembly" ⟨"EmptyChairs$Assembly", "walkers", "()I"⟩ ⟨"EmptyChairs$Assembly", "walkers", "()I"⟩ ∈ lw_tbl := (mt5 _ (List.mem_of_getElem? (i := 205) rfl))
theorem yok10 : YOk 10 := ⟨yc10, rfl, pn1, ⟨ph1, pv1, pd0⟩, pi1, fun h => absurd h (by decide), fun _ => ⟨yi10, Or.inr yv10⟩⟩
theorem yc11 : Cond.code ⟨"EmptyChairs$Assembly", "pricesOf", "(I)I"⟩ prog_2_method_12_code 4 (some .int) ∈ lw_tbl := (mt5 _ (List.mem_of_getElem? (i := 213) rfl))
theorem yi11 : Cond.instanceMethod ⟨"EmptyChairs$Assembly", "pricesOf", "(I)I"⟩ ∈ lw_tbl := (mt5 _ (List.mem_of_getElem? (i := 211) rfl))
theorem yv11 : Cond.selects "EmptyChairs$Assembly" ⟨"EmptyChairs$Assembly", "pricesOf", "(I)I"⟩ ⟨"EmptyChairs$Assembly", "pricesOf", "(I)I"⟩ ∈ lw_tbl := (mt5 _ (List.mem_of_getElem? (i := 212) rfl))
theorem yok11 : YOk 11 := ⟨yc11, rfl, pn1, ⟨ph1, pv1, pd4⟩, pi1, fun h => absurd h (by decide), fun _ => ⟨yi11, Or.inr yv11⟩⟩
theorem yc12 : Cond.code ⟨"EmptyChairs$Assembly", "pass", "(ILEmptyChairs$Scale;)I"⟩ prog_2_method_13_code 9 (some .int) ∈ lw_tbl := (mt5 _ (List.mem_of_getElem? (i := 101) rfl))
theorem yi12 : Cond.instanceMethod ⟨"EmptyChairs$Assembly", "pass", "(ILEmptyChairs$Scale;)I"⟩ ∈ lw_tbl := (mt5 _ (List.mem_of_getElem? (i := 99) rfl))
theorem yv12 : Cond.selects "EmptyChairs$Assembly" ⟨"EmptyChairs$Assembly", "pass", "(ILEmptyChairs$Scale;)I"⟩ ⟨"EmptyChairs$Assembly", "pass", "(ILEmptyChairs$Scale;)I"⟩ ∈ lw_tbl := (mt5 _ (List.mem_of_getElem? (i := 100) rfl))
theorem yok12 : YOk 12 := ⟨yc12, rfl, pn1, ⟨ph1, pv1, pd24⟩, pi1, fun h => absurd h (by decide), fun _ => ⟨yi12, Or.inr yv12⟩⟩
theorem yc13 : Cond.code ⟨"EmptyChairs$Assembly", "walkAll", "(I)Z"⟩ prog_2_method_14_code 4 (some .boolean) ∈ lw_tbl := (mt5 _ (List.mem_of_getElem? (i := 107) rfl))
theorem yi13 : Cond.instanceMethod ⟨"EmptyChairs$Assembly", "walkAll", "(I)Z"⟩ ∈ lw_tbl := (mt5 _ (List.mem_of_getElem? (i := 106) rfl))
theorem yv13 : Cond.selects "EmptyChairs$Assembly" ⟨"EmptyChairs$Assembly", "walkAll", "(I)Z"⟩ ⟨"EmptyChairs$Assembly", "walkAll", "(I)Z"⟩ ∈ lw_tbl := in_sel (q := (⟨"EmptyChairs$Assembly", "walkAll", "(I)Z"⟩, 16)) (List.mem_append_right _ (List.mem_append_right _ (List.mem_append_left _ (List.mem_of_getElem? (i := 5) rfl))))
theorem yok13 : YOk 13 := ⟨yc13, rfl, pn1, ⟨ph1, pv1, pd6⟩, pi1, fun h => absurd h (by decide), fun _ => ⟨yi13, Or.inr yv13⟩⟩
theorem yc14 : Cond.code ⟨"EmptyChairs$Assembly", "elapse", "(IILEmptyChairs$Scale;)I"⟩ prog_2_method_15_code 6 (some .int) ∈ lw_tbl := (mt5 _ (List.mem_of_getElem? (i := 117) rfl))
theorem yi14 : Cond.instanceMethod ⟨"EmptyChairs$Assembly", "elapse", "(IILEmptyChairs$Scale;)I"⟩ ∈ lw_tbl := (mt5 _ (List.mem_of_getElem? (i := 116) rfl))
theorem yv14 : Cond.selects "EmptyChairs$Assembly" ⟨"EmptyChairs$Assembly", "elapse", "(IILEmptyChairs$Scale;)I"⟩ ⟨"EmptyChairs$Assembly", "elapse", "(IILEmptyChairs$Scale;)I"⟩ ∈ lw_tbl := in_sel (q := (⟨"EmptyChairs$Assembly", "elapse", "(IILEmptyChairs$Scale;)I"⟩, 16)) (List.mem_append_right _ (List.mem_append_right _ (List.mem_append_left _ (List.mem_of_getElem? (i := 6) rfl))))
theorem yok14 : YOk 14 := ⟨yc14, rfl, pn1, ⟨ph1, pv1, pd20⟩, pi1, fun h => absurd h (by decide), fun _ => ⟨yi14, Or.inr yv14⟩⟩
theorem yc15 : Cond.code ⟨"EmptyChairs$Assembly", "allOdds", "()I"⟩ prog_2_method_16_code 3 (some .int) ∈ lw_tbl := (mt6 _ (List.mem_of_getElem? (i := 114) rfl))
theorem yi15 : Cond.instanceMethod ⟨"EmptyChairs$Assembly", "allOdds", "()I"⟩ ∈ lw_tbl := (mt6 _ (List.mem_of_getElem? (i := 112) rfl))
theorem yv15 : Cond.selects "EmptyChairs$Assembly" ⟨"EmptyChairs$Assembly", "allOdds", "()I"⟩ ⟨"EmptyChairs$Assembly", "allOdds", "()I"⟩ ∈ lw_tbl := (mt6 _ (List.mem_of_getElem? (i := 113) rfl))
theorem yok15 : YOk 15 := ⟨yc15, rfl, pn1, ⟨ph1, pv1, pd0⟩, pi1, fun h => absurd h (by decide), fun _ => ⟨yi15, Or.inr yv15⟩⟩
theorem yc16 : Cond.code ⟨"EmptyChairs$Assembly", "orderRooms", "([I)V"⟩ prog_2_method_17_code 4 (none) ∈ lw_tbl := (mt6 _ (List.mem_of_getElem? (i := 118) rfl))
theorem yi16 : Cond.instanceMethod ⟨"EmptyChairs$Assembly", "orderRooms", "([I)V"⟩ ∈ lw_tbl := (mt6 _ (List.mem_of_getElem? (i := 116) rfl))
theorem yv16 : Cond.selects "EmptyChairs$Assembly" ⟨"EmptyChairs$Assembly", "orderRooms", "([I)V"⟩ ⟨"EmptyChairs$Assembly", "orderRooms", "([I)V"⟩ ∈ lw_tbl := (mt6 _ (List.mem_of_getElem? (i := 117) rfl))
theorem yok16 : YOk 16 := ⟨yc16, rfl, pn1, ⟨ph1, pv1, pd51⟩, pi1, fun h => absurd h (by decide), fun _ => ⟨yi16, Or.inr yv16⟩⟩
theorem yc17 : Cond.code ⟨"EmptyChairs$Assembly", "isSoughtAhead", "(II)Z"⟩ prog_2_method_18_code 3 (some .boolean) ∈ lw_tbl := (mt6 _ (List.mem_of_getElem? (i := 122) rfl))
theorem yi17 : Cond.instanceMethod ⟨"EmptyChairs$Assembly", "isSoughtAhead", "(II)Z"⟩ ∈ lw_tbl := (mt6 _ (List.mem_of_getElem? (i := 121) rfl))
theorem yv17 : Cond.selects "EmptyChairs$Assembly" ⟨"EmptyChairs$Assembly", "isSoughtAhead", "(II)Z"⟩ ⟨"EmptyChairs$Assembly", "isSoughtAhead", "(II)Z"⟩ ∈ lw_tbl := in_sel (q := (⟨"EmptyChairs$Assembly", "isSoughtAhead", "(II)Z"⟩, 16)) (List.mem_append_right _ (List.mem_append_right _ (List.mem_append_left _ (List.mem_of_getElem? (i := 13) rfl))))
theorem yok17 : YOk 17 := ⟨yc17, rfl, pn1, ⟨ph1, pv1, pd10⟩, pi1, fun h => absurd h (by decide), fun _ => ⟨yi17, Or.inr yv17⟩⟩
theorem yc18 : Cond.code ⟨"EmptyChairs$AssemblyParser", "<init>", "(LEmptyChairs$Tape;LEmptyChairs$Assembly;)V"⟩ prog_3_method_1_code 3 (none) ∈ lw_tbl := (mt2 _ (List.mem_of_getElem? (i := 233) rfl))
theorem yi18 : Cond.instanceMethod ⟨"EmptyChairs$AssemblyParser", "<init>", "(LEmptyChairs$Tape;LEmptyChairs$Assembly;)V"⟩ ∈ lw_tbl := (mt2 _ (List.mem_of_getElem? (i := 232) rfl))
theorem yok18 : YOk 18 := ⟨yc18, rfl, pn2, ⟨ph2, pv2, pd47⟩, pi2, fun h => absurd h (by decide), fun _ => ⟨yi18, Or.inl rfl⟩⟩
theorem yc19 : Cond.code ⟨"EmptyChairs$AssemblyParser", "parse", "(I)Z"⟩ prog_3_method_2_code 3 (some .boolean) ∈ lw_tbl := (mt3 _ (List.mem_of_getElem? (i := 217) rfl))
theorem yi19 : Cond.instanceMethod ⟨"EmptyChairs$AssemblyParser", "parse", "(I)Z"⟩ ∈ lw_tbl := (mt3 _ (List.mem_of_getElem? (i := 215) rfl))
theorem yv19 : Cond.selects "EmptyChairs$AssemblyParser" ⟨"EmptyChairs$AssemblyParser", "parse", "(I)Z"⟩ ⟨"EmptyChairs$AssemblyParser", "parse", "(I)Z"⟩ ∈ lw_tbl := (mt3 _ (List.mem_of_getElem? (i := 216) rfl))
theorem yok19 : YOk 19 := ⟨yc19, rfl, pn2, ⟨ph2, pv2, pd6⟩, pi2, fun h => absurd h (by decide), fun _ => ⟨yi19, Or.inr yv19⟩⟩
theorem yc20 : Cond.code ⟨"EmptyChairs$AssemblyParser", "takePart", "()Z"⟩ prog_3_method_3_code 1 (some .boolean) ∈ lw_tbl := (mt4 _ (List.mem_of_getElem? (i := 16) rfl))
theorem yi20 : Cond.instanceMethod ⟨"EmptyChairs$AssemblyParser", "takePart", "()Z"⟩ ∈ lw_tbl := (mt4 _ (List.mem_of_getElem? (i := 15) rfl))
theorem yv20 : Cond.selects "EmptyChairs$AssemblyParser" ⟨"EmptyChairs$AssemblyParser", "takePart", "()Z"⟩ ⟨"EmptyChairs$AssemblyParser", "takePart", "()Z"⟩ ∈ lw_tbl := in_sel (q := (⟨"EmptyChairs$AssemblyParser", "takePart", "()Z"⟩, 6)) (List.mem_append_left _ (List.mem_of_getElem? (i := 9) rfl))
theorem yok20 : YOk 20 := ⟨yc20, rfl, pn2, ⟨ph2, pv2, pd3⟩, pi2, fun h => absurd h (by decide), fun _ => ⟨yi20, Or.inr yv20⟩⟩
theorem yc21 : Cond.code ⟨"EmptyChairs$AssemblyParser", "takeLaw", "(I)Z"⟩ prog_3_method_4_code 2 (some .boolean) ∈ lw_tbl := (mt4 _ (List.mem_of_getElem? (i := 20) rfl))
theorem yi21 : Cond.instanceMethod ⟨"EmptyChairs$AssemblyParser", "takeLaw", "(I)Z"⟩ ∈ lw_tbl := (mt4 _ (List.mem_of_getElem? (i := 19) rfl))
theorem yv21 : Cond.selects "EmptyChairs$AssemblyParser" ⟨"EmptyChairs$AssemblyParser", "takeLaw", "(I)Z"⟩ ⟨"EmptyChairs$AssemblyParser", "takeLaw", "(I)Z"⟩ ∈ lw_tbl := in_sel (q := (⟨"EmptyChairs$AssemblyParser", "takeLaw", "(I)Z"⟩, 6)) (List.mem_append_left _ (List.mem_of_getElem? (i := 10) rfl))
theorem yok21 : YOk 21 := ⟨yc21, rfl, pn2, ⟨ph2, pv2, pd6⟩, pi2, fun h => absurd h (by decide), fun _ => ⟨yi21, Or.inr yv21⟩⟩
theorem yc22 : Cond.code ⟨"EmptyChairs$AssemblyParser", "takePartyPart", "()Z"⟩ prog_3_method_5_code 1 (some .boolean) ∈ lw_tbl := (mt4 _ (List.mem_of_getElem? (i := 42) rfl))
theorem yi22 : Cond.instanceMethod ⟨"EmptyChairs$AssemblyParser", "takePartyPart", "()Z"⟩ ∈ lw_tbl := (mt4 _ (List.mem_of_getElem? (i := 41) rfl))
theorem yv22 : Cond.selects "EmptyChairs$AssemblyParser" ⟨"EmptyChairs$AssemblyParser", "takePartyPart", "()Z"⟩ ⟨"EmptyChairs$AssemblyParser", "takePartyPart", "()Z"⟩ ∈ lw_tbl := in_sel (q := (⟨"EmptyChairs$AssemblyParser", "takePartyPart", "()Z"⟩, 6)) (List.mem_append_left _ (List.mem_of_getElem? (i := 11) rfl))
theorem yok22 : YOk 22 := ⟨yc22, rfl, pn2, ⟨ph2, pv2, pd3⟩, pi2, fun h => absurd h (by decide), fun _ => ⟨yi22, Or.inr yv22⟩⟩
theorem yc23 : Cond.code ⟨"EmptyChairs$AssemblyParser", "takeMemberPart", "()Z"⟩ prog_3_method_6_code 2 (some .boolean) ∈ lw_tbl := (mt4 _ (List.mem_of_getElem? (i := 73) rfl))
theorem yi23 : Cond.instanceMethod ⟨"EmptyChairs$AssemblyParser", "takeMemberPart", "()Z"⟩ ∈ lw_tbl := (mt4 _ (List.mem_of_getElem? (i := 72) rfl))
theorem yv23 : Cond.selects "EmptyChairs$AssemblyParser" ⟨"EmptyChairs$AssemblyParser", "takeMemberPart", "()Z"⟩ ⟨"EmptyChairs$AssemblyParser", "takeMemberPart", "()Z"⟩ ∈ lw_tbl := in_sel (q := (⟨"EmptyChairs$AssemblyParser", "takeMemberPart", "()Z"⟩, 6)) (List.mem_append_left _ (List.mem_of_getElem? (i := 13) rfl))
theorem yok23 : YOk 23 := ⟨yc23, rfl, pn2, ⟨ph2, pv2, pd3⟩, pi2, fun h => absurd h (by decide), fun _ => ⟨yi23, Or.inr yv23⟩⟩
theorem yc24 : Cond.code ⟨"EmptyChairs$AssemblyParser", "takeTraits", "()Z"⟩ prog_3_method_7_code 2 (some .boolean) ∈ lw_tbl := (mt4 _ (List.mem_of_getElem? (i := 90) rfl))
theorem yi24 : Cond.instanceMethod ⟨"EmptyChairs$AssemblyParser", "takeTraits", "()Z"⟩ ∈ lw_tbl := (mt4 _ (List.mem_of_getElem? (i := 89) rfl))
theorem yv24 : Cond.selects "EmptyChairs$AssemblyParser" ⟨"EmptyChairs$AssemblyParser", "takeTraits", "()Z"⟩ ⟨"EmptyChairs$AssemblyParser", "takeTraits", "()Z"⟩ ∈ lw_tbl := in_sel (q := (⟨"EmptyChairs$AssemblyParser", "takeTraits", "()Z"⟩, 6)) (List.mem_append_left _ (List.mem_of_getElem? (i := 15) rfl))
theorem yok24 : YOk 24 := ⟨yc24, rfl, pn2, ⟨ph2, pv2, pd3⟩, pi2, fun h => absurd h (by decide), fun _ => ⟨yi24, Or.inr yv24⟩⟩
theorem yc25 : Cond.code ⟨"EmptyChairs$AssemblyParser", "takeTrait", "(IIII)Z"⟩ prog_3_method_8_code 5 (some .boolean) ∈ lw_tbl := (mt4 _ (List.mem_of_getElem? (i := 94) rfl))
theorem yi25 : Cond.instanceMethod ⟨"EmptyChairs$AssemblyParser", "takeTrait", "(IIII)Z"⟩ ∈ lw_tbl := (mt4 _ (List.mem_of_getElem? (i := 93) rfl))
theorem yv25 : Cond.selects "EmptyChairs$AssemblyParser" ⟨"EmptyChairs$AssemblyParser", "takeTrait", "(IIII)Z"⟩ ⟨"EmptyChairs$AssemblyParser", "takeTrait", "(IIII)Z"⟩ ∈ lw_tbl := in_sel (q := (⟨"EmptyChairs$AssemblyParser", "takeTrait", "(IIII)Z"⟩, 6)) (List.mem_append_right _ (List.mem_append_left _ (List.mem_of_getElem? (i := 0) rfl)))
theorem yok25 : YOk 25 := ⟨yc25, rfl, pn2, ⟨ph2, pv2, pd15⟩, pi2, fun h => absurd h (by decide), fun _ => ⟨yi25, Or.inr yv25⟩⟩
theorem yc26 : Cond.code ⟨"EmptyChairs$AssemblyParser", "takeTwinsPart", "()Z"⟩ prog_3_method_9_code 2 (some .boolean) ∈ lw_tbl := (mt4 _ (List.mem_of_getElem? (i := 102) rfl))
theorem yi26 : Cond.instanceMethod ⟨"EmptyChairs$AssemblyParser", "takeTwinsPart", "()Z"⟩ ∈ lw_tbl := (mt4 _ (List.mem_of_getElem? (i := 101) rfl))
theorem yv26 : Cond.selects "EmptyChairs$AssemblyParser" ⟨"EmptyChairs$AssemblyParser", "takeTwinsPart", "()Z"⟩ ⟨"EmptyChairs$AssemblyParser", "takeTwinsPart", "()Z"⟩ ∈ lw_tbl := in_sel (q := (⟨"EmptyChairs$AssemblyParser", "takeTwinsPart", "()Z"⟩, 6)) (List.mem_append_right _ (List.mem_append_left _ (List.mem_of_getElem? (i := 1) rfl)))
theorem yok26 : YOk 26 := ⟨yc26, rfl, pn2, ⟨ph2, pv2, pd3⟩, pi2, fun h => absurd h (by decide), fun _ => ⟨yi26, Or.inr yv26⟩⟩
theorem yc27 : Cond.code ⟨"EmptyChairs$AssemblyParser", "takeMotionPart", "()Z"⟩ prog_3_method_10_code 2 (some .boolean) ∈ lw_tbl := (mt4 _ (List.mem_of_getElem? (i := 111) rfl))
theorem yi27 : Cond.instanceMethod ⟨"EmptyChairs$AssemblyParser", "takeMotionPart", "()Z"⟩ ∈ lw_tbl := (mt4 _ (List.mem_of_getElem? (i := 110) rfl))
theorem yv27 : Cond.selects "EmptyChairs$AssemblyParser" ⟨"EmptyChairs$AssemblyParser", "takeMotionPart", "()Z"⟩ ⟨"EmptyChairs$AssemblyParser", "takeMotionPart", "()Z"⟩ ∈ lw_tbl := in_sel (q := (⟨"EmptyChairs$AssemblyParser", "takeMotionPart", "()Z"⟩, 6)) (List.mem_append_right _ (List.mem_append_left _ (List.mem_of_getElem? (i := 3) rfl)))
theorem yok27 : YOk 27 := ⟨yc27, rfl, pn2, ⟨ph2, pv2, pd3⟩, pi2, fun h => absurd h (by decide), fun _ => ⟨yi27, Or.inr yv27⟩⟩
theorem yc28 : Cond.code ⟨"EmptyChairs$AssemblyParser", "takeRoomPart", "()Z"⟩ prog_3_method_11_code 2 (some .boolean) ∈ lw_tbl := (mt4 _ (List.mem_of_getElem? (i := 119) rfl))
theorem yi28 : Cond.instanceMethod ⟨"EmptyChairs$AssemblyParser", "takeRoomPart", "()Z"⟩ ∈ lw_tbl := (mt4 _ (List.mem_of_getElem? (i := 118) rfl))
theorem yv28 : Cond.selects "EmptyChairs$AssemblyParser" ⟨"EmptyChairs$AssemblyParser", "takeRoomPart", "()Z"⟩ ⟨"EmptyChairs$AssemblyParser", "takeRoomPart", "()Z"⟩ ∈ lw_tbl := in_sel (q := (⟨"EmptyChairs$AssemblyParser", "takeRoomPart", "()Z"⟩, 6)) (List.mem_append_right _ (List.mem_append_left _ (List.mem_of_getElem? (i := 5) rfl)))
theorem yok28 : YOk 28 := ⟨yc28, rfl, pn2, ⟨ph2, pv2, pd3⟩, pi2, fun h => absurd h (by decide), fun _ => ⟨yi28, Or.inr yv28⟩⟩
theorem yc29 : Cond.code ⟨"EmptyChairs$AssemblyParser", "takeNewName", "()Z"⟩ prog_3_method_12_code 1 (some .boolean) ∈ lw_tbl := (mt4 _ (List.mem_of_getElem? (i := 46) rfl))
theorem yi29 : Cond.instanceMethod ⟨"EmptyChairs$AssemblyParser", "takeNewName", "()Z"⟩ ∈ lw_tbl := (mt4 _ (List.mem_of_getElem? (i := 45) rfl))
theorem yv29 : Cond.selects "EmptyChairs$AssemblyParser" ⟨"EmptyChairs$AssemblyParser", "takeNewName", "()Z"⟩ ⟨"EmptyChairs$AssemblyParser", "takeNewName", "()Z"⟩ ∈ lw_tbl := in_sel (q := (⟨"EmptyChairs$AssemblyParser", "takeNewName", "()Z"⟩, 6)) (List.mem_append_left _ (List.mem_of_getElem? (i := 12) rfl))
theorem yok29 : YOk 29 := ⟨yc29, rfl, pn2, ⟨ph2, pv2, pd3⟩, pi2, fun h => absurd h (by decide), fun _ => ⟨yi29, Or.inr yv29⟩⟩
theorem yc30 : Cond.code ⟨"EmptyChairs$AssemblyParser", "takeParty", "()Z"⟩ prog_3_method_13_code 1 (some .boolean) ∈ lw_tbl := (mt4 _ (List.mem_of_getElem? (i := 85) rfl))
theorem yi30 : Cond.instanceMethod ⟨"EmptyChairs$AssemblyParser", "takeParty", "()Z"⟩ ∈ lw_tbl := (mt4 _ (List.mem_of_getElem? (i := 84) rfl))
theorem yv30 : Cond.selects "EmptyChairs$AssemblyParser" ⟨"EmptyChairs$AssemblyParser", "takeParty", "()Z"⟩ ⟨"EmptyChairs$AssemblyParser", "takeParty", "()Z"⟩ ∈ lw_tbl := in_sel (q := (⟨"EmptyChairs$AssemblyParser", "takeParty", "()Z"⟩, 6)) (List.mem_append_left _ (List.mem_of_getElem? (i := 14) rfl))
theorem yok30 : YOk 30 := ⟨yc30, rfl, pn2, ⟨ph2, pv2, pd3⟩, pi2, fun h => absurd h (by decide), fun _ => ⟨yi30, Or.inr yv30⟩⟩
theorem yc31 : Cond.code ⟨"EmptyChairs$AssemblyParser", "takeLoneMember", "(I)Z"⟩ prog_3_method_14_code 2 (some .boolean) ∈ lw_tbl := (mt4 _ (List.mem_of_getElem? (i := 106) rfl))
theorem yi31 : Cond.instanceMethod ⟨"EmptyChairs$AssemblyParser", "takeLoneMember", "(I)Z"⟩ ∈ lw_tbl := (mt4 _ (List.mem_of_getElem? (i := 105) rfl))
theorem yv31 : Cond.selects "EmptyChairs$AssemblyParser" ⟨"EmptyChairs$AssemblyParser", "takeLoneMember", "(I)Z"⟩ ⟨"EmptyChairs$AssemblyParser", "takeLoneMember", "(I)Z"⟩ ∈ lw_tbl := in_sel (q := (⟨"EmptyChairs$AssemblyParser", "takeLoneMember", "(I)Z"⟩, 6)) (List.mem_append_right _ (List.mem_append_left _ (List.mem_of_getElem? (i := 2) rfl)))
theorem yok31 : YOk 31 := ⟨yc31, rfl, pn2, ⟨ph2, pv2, pd6⟩, pi2, fun h => absurd h (by decide), fun _ => ⟨yi31, Or.inr yv31⟩⟩
theorem yc32 : Cond.code ⟨"EmptyChairs$AssemblyParser", "takeParties", "(I)Z"⟩ prog_3_method_15_code 4 (some .boolean) ∈ lw_tbl := (mt4 _ (List.mem_of_getElem? (i := 115) rfl))
theorem yi32 : Cond.instanceMethod ⟨"EmptyChairs$AssemblyParser", "takeParties", "(I)Z"⟩ ∈ lw_tbl := (mt4 _ (List.mem_of_getElem? (i := 114) rfl))
theorem yv32 : Cond.selects "EmptyChairs$AssemblyParser" ⟨"EmptyChairs$AssemblyParser", "takeParties", "(I)Z"⟩ ⟨"EmptyChairs$AssemblyParser", "takeParties", "(I)Z"⟩ ∈ lw_tbl := in_sel (q := (⟨"EmptyChairs$AssemblyParser", "takeParties", "(I)Z"⟩, 6)) (List.mem_append_right _ (List.mem_append_left _ (List.mem_of_getElem? (i := 4) rfl)))
theorem yok32 : YOk 32 := ⟨yc32, rfl, pn2, ⟨ph2, pv2, pd6⟩, pi2, fun h => absurd h (by decide), fun _ => ⟨yi32, Or.inr yv32⟩⟩
theorem yc33 : Cond.code ⟨"EmptyChairs$Member", "<init>", "()V"⟩ prog_4_method_1_code 1 (none) ∈ lw_tbl := (mt1 _ (List.mem_of_getElem? (i := 222) rfl))
theorem yi33 : Cond.instanceMethod ⟨"EmptyChairs$Member", "<init>", "()V"⟩ ∈ lw_tbl := (mt1 _ (List.mem_of_getElem? (i := 221) rfl))
theorem yok33 : YOk 33 := ⟨yc33, rfl, pn3, ⟨ph3, pv3, pd2⟩, pi3, fun h => absurd h (by decide), fun _ => ⟨yi33, Or.inl rfl⟩⟩
theorem yc34 : Cond.code ⟨"EmptyChairs$Member", "reset", "()V"⟩ prog_4_method_2_code 1 (none) ∈ lw_tbl := (mt4 _ (List.mem_of_getElem? (i := 77) rfl))
theorem yi34 : Cond.instanceMethod ⟨"EmptyChairs$Member", "reset", "()V"⟩ ∈ lw_tbl := (mt4 _ (List.mem_of_getElem? (i := 75) rfl))
theorem yv34 : Cond.selects "EmptyChairs$Member" ⟨"EmptyChairs$Member", "reset", "()V"⟩ ⟨"EmptyChairs$Member", "reset", "()V"⟩ ∈ lw_tbl := (mt4 _ (List.mem_of_getElem? (i := 76) rfl))
theorem yok34 : YOk 34 := ⟨yc34, rfl, pn3, ⟨ph3, pv3, pd2⟩, pi3, fun h => absurd h (by decide), fun _ => ⟨yi34, Or.inr yv34⟩⟩
theorem yc35 : Cond.code ⟨"EmptyChairs$Member", "copyFrom", "(LEmptyChairs$Member;)V"⟩ prog_4_method_3_code 2 (none) ∈ lw_tbl := (mt4 _ (List.mem_of_getElem? (i := 127) rfl))
theorem yi35 : Cond.instanceMethod ⟨"EmptyChairs$Member", "copyFrom", "(LEmptyChairs$Member;)V"⟩ ∈ lw_tbl := (mt4 _ (List.mem_of_getElem? (i := 125) rfl))
theorem yv35 : Cond.selects "EmptyChairs$Member" ⟨"EmptyChairs$Member", "copyFrom", "(LEmptyChairs$Member;)V"⟩ ⟨"EmptyChairs$Member", "copyFrom", "(LEmptyChairs$Member;)V"⟩ ∈ lw_tbl := (mt4 _ (List.mem_of_getElem? (i := 126) rfl))
theorem yok35 : YOk 35 := ⟨yc35, rfl, pn3, ⟨ph3, pv3, pd42⟩, pi3, fun h => absurd h (by decide), fun _ => ⟨yi35, Or.inr yv35⟩⟩
theorem yc36 : Cond.code ⟨"EmptyChairs$Member", "isDead", "()Z"⟩ prog_4_method_4_code 1 (some .boolean) ∈ lw_tbl := (mt5 _ (List.mem_of_getElem? (i := 8) rfl))
theorem yi36 : Cond.instanceMethod ⟨"EmptyChairs$Member", "isDead", "()Z"⟩ ∈ lw_tbl := (mt5 _ (List.mem_of_getElem? (i := 6) rfl))
theorem yv36 : Cond.selects "EmptyChairs$Member" ⟨"EmptyChairs$Member", "isDead", "()Z"⟩ ⟨"EmptyChairs$Member", "isDead", "()Z"⟩ ∈ lw_tbl := (mt5 _ (List.mem_of_getElem? (i := 7) rfl))
theorem yok36 : YOk 36 := ⟨yc36, rfl, pn3, ⟨ph3, pv3, pd3⟩, pi3, fun h => absurd h (by decide), fun _ => ⟨yi36, Or.inr yv36⟩⟩
theorem yc37 : Cond.code ⟨"EmptyChairs$Member", "canWalk", "()Z"⟩ prog_4_method_5_code 1 (some .boolean) ∈ lw_tbl := (mt4 _ (List.mem_of_getElem? (i := 226) rfl))
theorem yi37 : Cond.instanceMethod ⟨"EmptyChairs$Member", "canWalk", "()Z"⟩ ∈ lw_tbl := (mt4 _ (List.mem_of_getElem? (i := 224) rfl))
theorem yv37 : Cond.selects "EmptyChairs$Member" ⟨"EmptyChairs$Member", "canWalk", "()Z"⟩ ⟨"EmptyChairs$Member", "canWalk", "()Z"⟩ ∈ lw_tbl := (mt4 _ (List.mem_of_getElem? (i := 225) rfl))
theorem yok37 : YOk 37 := ⟨yc37, rfl, pn3, ⟨ph3, pv3, pd3⟩, pi3, fun h => absurd h (by decide), fun _ => ⟨yi37, Or.inr yv37⟩⟩
theorem yc38 : Cond.code ⟨"EmptyChairs$Member", "perish", "()V"⟩ prog_4_method_6_code 1 (none) ∈ lw_tbl := (mt5 _ (List.mem_of_getElem? (i := 133) rfl))
theorem yi38 : Cond.instanceMethod ⟨"EmptyChairs$Member", "perish", "()V"⟩ ∈ lw_tbl := (mt5 _ (List.mem_of_getElem? (i := 131) rfl))
theorem yv38 : Cond.selects "EmptyChairs$Member" ⟨"EmptyChairs$Member", "perish", "()V"⟩ ⟨"EmptyChairs$Member", "perish", "()V"⟩ ∈ lw_tbl := (mt5 _ (List.mem_of_getElem? (i := 132) rfl))
theorem yok38 : YOk 38 := ⟨yc38, rfl, pn3, ⟨ph3, pv3, pd2⟩, pi3, fun h => absurd h (by decide), fun _ => ⟨yi38, Or.inr yv38⟩⟩
theorem yc39 : Cond.code ⟨"EmptyChairs$Member", "yardsAfter", "(I)I"⟩ prog_4_method_7_code 3 (some .int) ∈ lw_tbl := (mt4 _ (List.mem_of_getElem? (i := 218) rfl))
theorem yi39 : Cond.instanceMethod ⟨"EmptyChairs$Member", "yardsAfter", "(I)I"⟩ ∈ lw_tbl := (mt4 _ (List.mem_of_getElem? (i := 216) rfl))
theorem yv39 : Cond.selects "EmptyChairs$Member" ⟨"EmptyChairs$Member", "yardsAfter", "(I)I"⟩ ⟨"EmptyChairs$Member", "yardsAfter", "(I)I"⟩ ∈ lw_tbl := (mt4 _ (List.mem_of_getElem? (i := 217) rfl))
theorem yok39 : YOk 39 := ⟨yc39, rfl, pn3, ⟨ph3, pv3, pd4⟩, pi3, fun h => absurd h (by decide), fun _ => ⟨yi39, Or.inr yv39⟩⟩
theorem yc40 : Cond.code ⟨"EmptyChairs$Member", "walkOn", "(I)Z"⟩ prog_4_method_8_code 3 (some .boolean) ∈ lw_tbl := (mt5 _ (List.mem_of_getElem? (i := 111) rfl))
theorem yi40 : Cond.instanceMethod ⟨"EmptyChairs$Member", "walkOn", "(I)Z"⟩ ∈ lw_tbl := (mt5 _ (List.mem_of_getElem? (i := 109) rfl))
theorem yv40 : Cond.selects "EmptyChairs$Member" ⟨"EmptyChairs$Member", "walkOn", "(I)Z"⟩ ⟨"EmptyChairs$Member", "walkOn", "(I)Z"⟩ ∈ lw_tbl := (mt5 _ (List.mem_of_getElem? (i := 110) rfl))
theorem yok40 : YOk 40 := ⟨yc40, rfl, pn3, ⟨ph3, pv3, pd6⟩, pi3, fun h => absurd h (by decide), fun _ => ⟨yi40, Or.inr yv40⟩⟩
theorem yc41 : Cond.code ⟨"EmptyChairs$Runner", "<init>", "(LEmptyChairs$Scale;LEmptyChairs$Assembly;)V"⟩ prog_5_method_1_code 3 (none) ∈ lw_tbl := (mt3 _ (List.mem_of_getElem? (i := 43) rfl))
theorem yi41 : Cond.instanceMethod ⟨"EmptyChairs$Runner", "<init>", "(LEmptyChairs$Scale;LEmptyChairs$Assembly;)V"⟩ ∈ lw_tbl := (mt3 _ (List.mem_of_getElem? (i := 42) rfl))
theorem yok41 : YOk 41 := ⟨yc41, rfl, pn4, ⟨ph4, pv4, pd45⟩, pi4, fun h => absurd h (by decide), fun _ => ⟨yi41, Or.inl rfl⟩⟩
theorem yc42 : Cond.code ⟨"EmptyChairs$Runner", "run", "(LEmptyChairs$Assembly;I)I"⟩ prog_5_method_2_code 3 (some .int) ∈ lw_tbl := (mt6 _ (List.mem_of_getElem? (i := 134) rfl))
theorem yi42 : Cond.instanceMethod ⟨"EmptyChairs$Runner", "run", "(LEmptyChairs$Assembly;I)I"⟩ ∈ lw_tbl := (mt6 _ (List.mem_of_getElem? (i := 132) rfl))
theorem yv42 : Cond.selects "EmptyChairs$Runner" ⟨"EmptyChairs$Runner", "run", "(LEmptyChairs$Assembly;I)I"⟩ ⟨"EmptyChairs$Runner", "run", "(LEmptyChairs$Assembly;I)I"⟩ ∈ lw_tbl := (mt6 _ (List.mem_of_getElem? (i := 133) rfl))
theorem yok42 : YOk 42 := ⟨yc42, rfl, pn4, ⟨ph4, pv4, pd36⟩, pi4, fun h => absurd h (by decide), fun _ => ⟨yi42, Or.inr yv42⟩⟩
theorem yc43 : Cond.code ⟨"EmptyChairs$Runner", "runSteps", "(III)V"⟩ prog_5_method_3_code 5 (none) ∈ lw_tbl := (mt6 _ (List.mem_of_getElem? (i := 139) rfl))
theorem yi43 : Cond.instanceMethod ⟨"EmptyChairs$Runner", "runSteps", "(III)V"⟩ ∈ lw_tbl := (mt6 _ (List.mem_of_getElem? (i := 138) rfl))
theorem yv43 : Cond.selects "EmptyChairs$Runner" ⟨"EmptyChairs$Runner", "runSteps", "(III)V"⟩ ⟨"EmptyChairs$Runner", "runSteps", "(III)V"⟩ ∈ lw_tbl := in_sel (q := (⟨"EmptyChairs$Runner", "runSteps", "(III)V"⟩, 6)) (List.mem_append_right _ (List.mem_append_right _ (List.mem_append_left _ (List.mem_of_getElem? (i := 14) rfl))))
theorem yok43 : YOk 43 := ⟨yc43, rfl, pn4, ⟨ph4, pv4, pd12⟩, pi4, fun h => absurd h (by decide), fun _ => ⟨yi43, Or.inr yv43⟩⟩
theorem yc44 : Cond.code ⟨"EmptyChairs$Runner", "runStep", "(II)V"⟩ prog_5_method_4_code 5 (none) ∈ lw_tbl := (mt6 _ (List.mem_of_getElem? (i := 143) rfl))
theorem yi44 : Cond.instanceMethod ⟨"EmptyChairs$Runner", "runStep", "(II)V"⟩ ∈ lw_tbl := (mt6 _ (List.mem_of_getElem? (i := 142) rfl))
theorem yv44 : Cond.selects "EmptyChairs$Runner" ⟨"EmptyChairs$Runner", "runStep", "(II)V"⟩ ⟨"EmptyChairs$Runner", "runStep", "(II)V"⟩ ∈ lw_tbl := in_sel (q := (⟨"EmptyChairs$Runner", "runStep", "(II)V"⟩, 6)) (List.mem_append_right _ (List.mem_append_right _ (List.mem_append_left _ (List.mem_of_getElem? (i := 15) rfl))))
theorem yok44 : YOk 44 := ⟨yc44, rfl, pn4, ⟨ph4, pv4, pd9⟩, pi4, fun h => absurd h (by decide), fun _ => ⟨yi44, Or.inr yv44⟩⟩
theorem yc45 : Cond.code ⟨"EmptyChairs$Runner", "runAny", "()V"⟩ prog_5_method_5_code 2 (none) ∈ lw_tbl := (mt6 _ (List.mem_of_getElem? (i := 148) rfl))
theorem yi45 : Cond.instanceMethod ⟨"EmptyChairs$Runner", "runAny", "()V"⟩ ∈ lw_tbl := (mt6 _ (List.mem_of_getElem? (i := 147) rfl))
theorem yv45 : Cond.selects "EmptyChairs$Runner" ⟨"EmptyChairs$Runner", "runAny", "()V"⟩ ⟨"EmptyChairs$Runner", "runAny", "()V"⟩ ∈ lw_tbl := in_sel (q := (⟨"EmptyChairs$Runner", "runAny", "()V"⟩, 6)) (List.mem_append_right _ (List.mem_append_right _ (List.mem_append_right _ (List.mem_append_left _ (List.mem_of_getElem? (i := 0) rfl)))))
theorem yok45 : YOk 45 := ⟨yc45, rfl, pn4, ⟨ph4, pv4, pd2⟩, pi4, fun h => absurd h (by decide), fun _ => ⟨yi45, Or.inr yv45⟩⟩
theorem yc46 : Cond.code ⟨"EmptyChairs$Runner", "runTold", "(ILEmptyChairs$Member;)V"⟩ prog_5_method_6_code 3 (none) ∈ lw_tbl := (mt6 _ (List.mem_of_getElem? (i := 153) rfl))
theorem yi46 : Cond.instanceMethod ⟨"EmptyChairs$Runner", "runTold", "(ILEmptyChairs$Member;)V"⟩ ∈ lw_tbl := (mt6 _ (List.mem_of_getElem? (i := 152) rfl))
theorem yv46 : Cond.selects "EmptyChairs$Runner" ⟨"EmptyChairs$Runner", "runTold", "(ILEmptyChairs$Member;)V"⟩ ⟨"EmptyChairs$Runner", "runTold", "(ILEmptyChairs$Member;)V"⟩ ∈ lw_tbl := in_sel (q := (⟨"EmptyChairs$Runner", "runTold", "(ILEmptyChairs$Member;)V"⟩, 6)) (List.mem_append_right _ (List.mem_append_right _ (List.mem_append_right _ (List.mem_append_left _ (List.mem_of_getElem? (i := 1) rfl)))))
theorem yok46 : YOk 46 := ⟨yc46, rfl, pn4, ⟨ph4, pv4, pd23⟩, pi4, fun h => absurd h (by decide), fun _ => ⟨yi46, Or.inr yv46⟩⟩
theorem yc47 : Cond.code ⟨"EmptyChairs$Runner", "isTrue", "(I)Z"⟩ prog_5_method_7_code 4 (some .boolean) ∈ lw_tbl := (mt6 _ (List.mem_of_getElem? (i := 159) rfl))
theorem yi47 : Cond.instanceMethod ⟨"EmptyChairs$Runner", "isTrue", "(I)Z"⟩ ∈ lw_tbl := (mt6 _ (List.mem_of_getElem? (i := 158) rfl))
theorem yv47 : Cond.selects "EmptyChairs$Runner" ⟨"EmptyChairs$Runner", "isTrue", "(I)Z"⟩ ⟨"EmptyChairs$Runner", "isTrue", "(I)Z"⟩ ∈ lw_tbl := in_sel (q := (⟨"EmptyChairs$Runner", "isTrue", "(I)Z"⟩, 6)) (List.mem_append_right _ (List.mem_append_right _ (List.mem_append_right _ (List.mem_append_left _ (List.mem_of_getElem? (i := 2) rfl)))))
theorem yok47 : YOk 47 := ⟨yc47, rfl, pn4, ⟨ph4, pv4, pd6⟩, pi4, fun h => absurd h (by decide), fun _ => ⟨yi47, Or.inr yv47⟩⟩
theorem yc48 : Cond.code ⟨"EmptyChairs$Runner", "compares", "(III)Z"⟩ prog_5_method_8_code 3 (some .boolean) ∈ lw_tbl := (mt6 _ (List.mem_of_getElem? (i := 166) rfl))
theorem ys48 : Cond.static ⟨"EmptyChairs$Runner", "compares", "(III)Z"⟩ ∈ lw_tbl := (mt6 _ (List.mem_of_getElem? (i := 165) rfl))
theorem yok48 : YOk 48 := ⟨yc48, rfl, pn4, ⟨ph4, pv4, pd13⟩, pi4, fun _ => ys48, fun h => absurd h (by decide)⟩
theorem yc49 : Cond.code ⟨"EmptyChairs$Scale", "<init>", "(LEmptyChairs$Assembly;)V"⟩ prog_6_method_1_code 2 (none) ∈ lw_tbl := (mt2 _ (List.mem_of_getElem? (i := 145) rfl))
theorem yi49 : Cond.instanceMethod ⟨"EmptyChairs$Scale", "<init>", "(LEmptyChairs$Assembly;)V"⟩ ∈ lw_tbl := (mt2 _ (List.mem_of_getElem? (i := 144) rfl))
theorem yok49 : YOk 49 := ⟨yc49, rfl, pn5, ⟨ph5, pv5, pd35⟩, pi5, fun h => absurd h (by decide), fun _ => ⟨yi49, Or.inl rfl⟩⟩
theorem yc50 : Cond.code ⟨"EmptyChairs$Scale", "load", "(LEmptyChairs$Assembly;I)V"⟩ prog_6_method_2_code 5 (none) ∈ lw_tbl := (mt4 _ (List.mem_of_getElem? (i := 214) rfl))
theorem yi50 : Cond.instanceMethod ⟨"EmptyChairs$Scale", "load", "(LEmptyChairs$Assembly;I)V"⟩ ∈ lw_tbl := (mt4 _ (List.mem_of_getElem? (i := 212) rfl))
theorem yv50 : Cond.selects "EmptyChairs$Scale" ⟨"EmptyChairs$Scale", "load", "(LEmptyChairs$Assembly;I)V"⟩ ⟨"EmptyChairs$Scale", "load", "(LEmptyChairs$Assembly;I)V"⟩ ∈ lw_tbl := (mt4 _ (List.mem_of_getElem? (i := 213) rfl))
theorem yok50 : YOk 50 := ⟨yc50, rfl, pn5, ⟨ph5, pv5, pd37⟩, pi5, fun h => absurd h (by decide), fun _ => ⟨yi50, Or.inr yv50⟩⟩
theorem yc51 : Cond.code ⟨"EmptyChairs$Scale", "setLaw", "(III)V"⟩ prog_6_method_3_code 4 (none) ∈ lw_tbl := (mt4 _ (List.mem_of_getElem? (i := 230) rfl))
theorem yi51 : Cond.instanceMethod ⟨"EmptyChairs$Scale", "setLaw", "(III)V"⟩ ∈ lw_tbl := (mt4 _ (List.mem_of_getElem? (i := 228) rfl))
theorem yv51 : Cond.selects "EmptyChairs$Scale" ⟨"EmptyChairs$Scale", "setLaw", "(III)V"⟩ ⟨"EmptyChairs$Scale", "setLaw", "(III)V"⟩ ∈ lw_tbl := (mt4 _ (List.mem_of_getElem? (i := 229) rfl))
theorem yok51 : YOk 51 := ⟨yc51, rfl, pn5, ⟨ph5, pv5, pd12⟩, pi5, fun h => absurd h (by decide), fun _ => ⟨yi51, Or.inr yv51⟩⟩
theorem yc52 : Cond.code ⟨"EmptyChairs$Scale", "sendAway", "(I)V"⟩ prog_6_method_4_code 3 (none) ∈ lw_tbl := (mt5 _ (List.mem_of_getElem? (i := 218) rfl))
theorem yi52 : Cond.instanceMethod ⟨"EmptyChairs$Scale", "sendAway", "(I)V"⟩ ∈ lw_tbl := (mt5 _ (List.mem_of_getElem? (i := 216) rfl))
theorem yv52 : Cond.selects "EmptyChairs$Scale" ⟨"EmptyChairs$Scale", "sendAway", "(I)V"⟩ ⟨"EmptyChairs$Scale", "sendAway", "(I)V"⟩ ∈ lw_tbl := (mt5 _ (List.mem_of_getElem? (i := 217) rfl))
theorem yok52 : YOk 52 := ⟨yc52, rfl, pn5, ⟨ph5, pv5, pd5⟩, pi5, fun h => absurd h (by decide), fun _ => ⟨yi52, Or.inr yv52⟩⟩
theorem yc53 : Cond.code ⟨"EmptyChairs$Scale", "weigh", "()V"⟩ prog_6_method_5_code 5 (none) ∈ lw_tbl := (mt4 _ (List.mem_of_getElem? (i := 234) rfl))
theorem yi53 : Cond.instanceMethod ⟨"EmptyChairs$Scale", "weigh", "()V"⟩ ∈ lw_tbl := (mt4 _ (List.mem_of_getElem? (i := 232) rfl))
theorem yv53 : Cond.selects "EmptyChairs$Scale" ⟨"EmptyChairs$Scale", "weigh", "()V"⟩ ⟨"EmptyChairs$Scale", "weigh", "()V"⟩ ∈ lw_tbl := (mt4 _ (List.mem_of_getElem? (i := 233) rfl))
theorem yok53 : YOk 53 := ⟨yc53, rfl, pn5, ⟨ph5, pv5, pd2⟩, pi5, fun h => absurd h (by decide), fun _ => ⟨yi53, Or.inr yv53⟩⟩
theorem yc54 : Cond.code ⟨"EmptyChairs$Scale", "ownWeight", "(LEmptyChairs$Member;I)I"⟩ prog_6_method_6_code 3 (some .int) ∈ lw_tbl := (mt4 _ (List.mem_of_getElem? (i := 239) rfl))
theorem yi54 : Cond.instanceMethod ⟨"EmptyChairs$Scale", "ownWeight", "(LEmptyChairs$Member;I)I"⟩ ∈ lw_tbl := (mt4 _ (List.mem_of_getElem? (i := 238) rfl))
theorem yv54 : Cond.selects "EmptyChairs$Scale" ⟨"EmptyChairs$Scale", "ownWeight", "(LEmptyChairs$Member;I)I"⟩ ⟨"EmptyChairs$Scale", "ownWeight", "(LEmptyChairs$Member;I)I"⟩ ∈ lw_tbl := in_sel (q := (⟨"EmptyChairs$Scale", "ownWeight", "(LEmptyChairs$Member;I)I"⟩, 9)) (List.mem_append_right _ (List.mem_append_right _ (List.mem_append_left _ (List.mem_of_getElem? (i := 0) rfl))))
theorem yok54 : YOk 54 := ⟨yc54, rfl, pn5, ⟨ph5, pv5, pd43⟩, pi5, fun h => absurd h (by decide), fun _ => ⟨yi54, Or.inr yv54⟩⟩
theorem yc55 : Cond.code ⟨"EmptyChairs$Scale", "powerOfSet", "(I)I"⟩ prog_6_method_7_code 4 (some .int) ∈ lw_tbl := (mt5 _ (List.mem_of_getElem? (i := 24) rfl))
theorem yi55 : Cond.instanceMethod ⟨"EmptyChairs$Scale", "powerOfSet", "(I)I"⟩ ∈ lw_tbl := (mt5 _ (List.mem_of_getElem? (i := 22) rfl))
theorem yv55 : Cond.selects "EmptyChairs$Scale" ⟨"EmptyChairs$Scale", "powerOfSet", "(I)I"⟩ ⟨"EmptyChairs$Scale", "powerOfSet", "(I)I"⟩ ∈ lw_tbl := (mt5 _ (List.mem_of_getElem? (i := 23) rfl))
theorem yok55 : YOk 55 := ⟨yc55, rfl, pn5, ⟨ph5, pv5, pd4⟩, pi5, fun h => absurd h (by decide), fun _ => ⟨yi55, Or.inr yv55⟩⟩
theorem yc56 : Cond.code ⟨"EmptyChairs$Scale", "allPower", "()I"⟩ prog_6_method_8_code 1 (some .int) ∈ lw_tbl := (mt5 _ (List.mem_of_getElem? (i := 28) rfl))
theorem yi56 : Cond.instanceMethod ⟨"EmptyChairs$Scale", "allPower", "()I"⟩ ∈ lw_tbl := (mt5 _ (List.mem_of_getElem? (i := 26) rfl))
theorem yv56 : Cond.selects "EmptyChairs$Scale" ⟨"EmptyChairs$Scale", "allPower", "()I"⟩ ⟨"EmptyChairs$Scale", "allPower", "()I"⟩ ∈ lw_tbl := (mt5 _ (List.mem_of_getElem? (i := 27) rfl))
theorem yok56 : YOk 56 := ⟨yc56, rfl, pn5, ⟨ph5, pv5, pd0⟩, pi5, fun h => absurd h (by decide), fun _ => ⟨yi56, Or.inr yv56⟩⟩
theorem yc57 : Cond.code ⟨"EmptyChairs$Scale", "governor", "()I"⟩ prog_6_method_9_code 4 (some .int) ∈ lw_tbl := (mt5 _ (List.mem_of_getElem? (i := 80) rfl))
theorem yi57 : Cond.instanceMethod ⟨"EmptyChairs$Scale", "governor", "()I"⟩ ∈ lw_tbl := (mt5 _ (List.mem_of_getElem? (i := 78) rfl))
theorem yv57 : Cond.selects "EmptyChairs$Scale" ⟨"EmptyChairs$Scale", "governor", "()I"⟩ ⟨"EmptyChairs$Scale", "governor", "()I"⟩ ∈ lw_tbl := (mt5 _ (List.mem_of_getElem? (i := 79) rfl))
theorem yok57 : YOk 57 := ⟨yc57, rfl, pn5, ⟨ph5, pv5, pd0⟩, pi5, fun h => absurd h (by decide), fun _ => ⟨yi57, Or.inr yv57⟩⟩
theorem yc58 : Cond.code ⟨"EmptyChairs$Scale", "marginOf", "(I)I"⟩ prog_6_method_10_code 2 (some .int) ∈ lw_tbl := (mt5 _ (List.mem_of_getElem? (i := 20) rfl))
theorem yi58 : Cond.instanceMethod ⟨"EmptyChairs$Scale", "marginOf", "(I)I"⟩ ∈ lw_tbl := (mt5 _ (List.mem_of_getElem? (i := 18) rfl))
theorem yv58 : Cond.selects "EmptyChairs$Scale" ⟨"EmptyChairs$Scale", "marginOf", "(I)I"⟩ ⟨"EmptyChairs$Scale", "marginOf", "(I)I"⟩ ∈ lw_tbl := (mt5 _ (List.mem_of_getElem? (i := 19) rfl))
theorem yok58 : YOk 58 := ⟨yc58, rfl, pn5, ⟨ph5, pv5, pd4⟩, pi5, fun h => absurd h (by decide), fun _ => ⟨yi58, Or.inr yv58⟩⟩
theorem yc59 : Cond.code ⟨"EmptyChairs$Scale", "carriedSet", "()I"⟩ prog_6_method_11_code 3 (some .int) ∈ lw_tbl := (mt5 _ (List.mem_of_getElem? (i := 16) rfl))
theorem yi59 : Cond.instanceMethod ⟨"EmptyChairs$Scale", "carriedSet", "()I"⟩ ∈ lw_tbl := (mt5 _ (List.mem_of_getElem? (i := 14) rfl))
theorem yv59 : Cond.selects "EmptyChairs$Scale" ⟨"EmptyChairs$Scale", "carriedSet", "()I"⟩ ⟨"EmptyChairs$Scale", "carriedSet", "()I"⟩ ∈ lw_tbl := (mt5 _ (List.mem_of_getElem? (i := 15) rfl))
theorem yok59 : YOk 59 := ⟨yc59, rfl, pn5, ⟨ph5, pv5, pd0⟩, pi5, fun h => absurd h (by decide), fun _ => ⟨yi59, Or.inr yv59⟩⟩
theorem yc60 : Cond.code ⟨"EmptyChairs$Scale", "isWinning", "(I)Z"⟩ prog_6_method_12_code 2 (some .boolean) ∈ lw_tbl := (mt6 _ (List.mem_of_getElem? (i := 31) rfl))
theorem yi60 : Cond.instanceMethod ⟨"EmptyChairs$Scale", "isWinning", "(I)Z"⟩ ∈ lw_tbl := (mt6 _ (List.mem_of_getElem? (i := 29) rfl))
theorem yv60 : Cond.selects "EmptyChairs$Scale" ⟨"EmptyChairs$Scale", "isWinning", "(I)Z"⟩ ⟨"EmptyChairs$Scale", "isWinning", "(I)Z"⟩ ∈ lw_tbl := (mt6 _ (List.mem_of_getElem? (i := 30) rfl))
theorem yok60 : YOk 60 := ⟨yc60, rfl, pn5, ⟨ph5, pv5, pd6⟩, pi5, fun h => absurd h (by decide), fun _ => ⟨yi60, Or.inr yv60⟩⟩
theorem yc61 : Cond.code ⟨"EmptyChairs$Scale", "swingsOf", "(I)I"⟩ prog_6_method_13_code 5 (some .int) ∈ lw_tbl := (mt6 _ (List.mem_of_getElem? (i := 44) rfl))
theorem yi61 : Cond.instanceMethod ⟨"EmptyChairs$Scale", "swingsOf", "(I)I"⟩ ∈ lw_tbl := (mt6 _ (List.mem_of_getElem? (i := 42) rfl))
theorem yv61 : Cond.selects "EmptyChairs$Scale" ⟨"EmptyChairs$Scale", "swingsOf", "(I)I"⟩ ⟨"EmptyChairs$Scale", "swingsOf", "(I)I"⟩ ∈ lw_tbl := (mt6 _ (List.mem_of_getElem? (i := 43) rfl))
theorem yok61 : YOk 61 := ⟨yc61, rfl, pn5, ⟨ph5, pv5, pd4⟩, pi5, fun h => absurd h (by decide), fun _ => ⟨yi61, Or.inr yv61⟩⟩
theorem yc62 : Cond.code ⟨"EmptyChairs$Scale", "isLean", "(I)Z"⟩ prog_6_method_14_code 3 (some .boolean) ∈ lw_tbl := (mt6 _ (List.mem_of_getElem? (i := 64) rfl))
theorem yi62 : Cond.instanceMethod ⟨"EmptyChairs$Scale", "isLean", "(I)Z"⟩ ∈ lw_tbl := (mt6 _ (List.mem_of_getElem? (i := 62) rfl))
theorem yv62 : Cond.selects "EmptyChairs$Scale" ⟨"EmptyChairs$Scale", "isLean", "(I)Z"⟩ ⟨"EmptyChairs$Scale", "isLean", "(I)Z"⟩ ∈ lw_tbl := (mt6 _ (List.mem_of_getElem? (i := 63) rfl))
theorem yok62 : YOk 62 := ⟨yc62, rfl, pn5, ⟨ph5, pv5, pd6⟩, pi5, fun h => absurd h (by decide), fun _ => ⟨yi62, Or.inr yv62⟩⟩
theorem yc63 : Cond.code ⟨"EmptyChairs$Script", "<init>", "()V"⟩ prog_7_method_1_code 1 (none) ∈ lw_tbl := (mt1 _ (List.mem_of_getElem? (i := 174) rfl))
theorem yi63 : Cond.instanceMethod ⟨"EmptyChairs$Script", "<init>", "()V"⟩ ∈ lw_tbl := (mt1 _ (List.mem_of_getElem? (i := 173) rfl))
theorem yok63 : YOk 63 := ⟨yc63, rfl, pn6, ⟨ph6, pv6, pd2⟩, pi6, fun h => absurd h (by decide), fun _ => ⟨yi63, Or.inl rfl⟩⟩
theorem yc64 : Cond.code ⟨"EmptyChairs$Script", "reset", "()V"⟩ prog_7_method_2_code 1 (none) ∈ lw_tbl := (mt3 _ (List.mem_of_getElem? (i := 228) rfl))
theorem yi64 : Cond.instanceMethod ⟨"EmptyChairs$Script", "reset", "()V"⟩ ∈ lw_tbl := (mt3 _ (List.mem_of_getElem? (i := 226) rfl))
theorem yv64 : Cond.selects "EmptyChairs$Script" ⟨"EmptyChairs$Script", "reset", "()V"⟩ ⟨"EmptyChairs$Script", "reset", "()V"⟩ ∈ lw_tbl := (mt3 _ (List.mem_of_getElem? (i := 227) rfl))
theorem yok64 : YOk 64 := ⟨yc64, rfl, pn6, ⟨ph6, pv6, pd2⟩, pi6, fun h => absurd h (by decide), fun _ => ⟨yi64, Or.inr yv64⟩⟩
theorem yc65 : Cond.code ⟨"EmptyChairs$Script", "copyFrom", "(LEmptyChairs$Script;)V"⟩ prog_7_method_3_code 2 (none) ∈ lw_tbl := (mt4 _ (List.mem_of_getElem? (i := 131) rfl))
theorem yi65 : Cond.instanceMethod ⟨"EmptyChairs$Script", "copyFrom", "(LEmptyChairs$Script;)V"⟩ ∈ lw_tbl := (mt4 _ (List.mem_of_getElem? (i := 129) rfl))
theorem yv65 : Cond.selects "EmptyChairs$Script" ⟨"EmptyChairs$Script", "copyFrom", "(LEmptyChairs$Script;)V"⟩ ⟨"EmptyChairs$Script", "copyFrom", "(LEmptyChairs$Script;)V"⟩ ∈ lw_tbl := (mt4 _ (List.mem_of_getElem? (i := 130) rfl))
theorem yok65 : YOk 65 := ⟨yc65, rfl, pn6, ⟨ph6, pv6, pd46⟩, pi6, fun h => absurd h (by decide), fun _ => ⟨yi65, Or.inr yv65⟩⟩
theorem yc66 : Cond.code ⟨"EmptyChairs$ScriptParser", "<init>", "(LEmptyChairs$Tape;LEmptyChairs$Assembly;)V"⟩ prog_8_method_1_code 3 (none) ∈ lw_tbl := (mt3 _ (List.mem_of_getElem? (i := 18) rfl))
theorem yi66 : Cond.instanceMethod ⟨"EmptyChairs$ScriptParser", "<init>", "(LEmptyChairs$Tape;LEmptyChairs$Assembly;)V"⟩ ∈ lw_tbl := (mt3 _ (List.mem_of_getElem? (i := 17) rfl))
theorem yok66 : YOk 66 := ⟨yc66, rfl, pn7, ⟨ph7, pv7, pd47⟩, pi7, fun h => absurd h (by decide), fun _ => ⟨yi66, Or.inl rfl⟩⟩
theorem yc67 : Cond.code ⟨"EmptyChairs$ScriptParser", "parse", "(I)Z"⟩ prog_8_method_2_code 4 (some .boolean) ∈ lw_tbl := (mt4 _ (List.mem_of_getElem? (i := 147) rfl))
theorem yi67 : Cond.instanceMethod ⟨"EmptyChairs$ScriptParser", "parse", "(I)Z"⟩ ∈ lw_tbl := (mt4 _ (List.mem_of_getElem? (i := 145) rfl))
theorem yv67 : Cond.selects "EmptyChairs$ScriptParser" ⟨"EmptyChairs$ScriptParser", "parse", "(I)Z"⟩ ⟨"EmptyChairs$ScriptParser", "parse", "(I)Z"⟩ ∈ lw_tbl := (mt4 _ (List.mem_of_getElem? (i := 146) rfl))
theorem yok67 : YOk 67 := ⟨yc67, rfl, pn7, ⟨ph7, pv7, pd6⟩, pi7, fun h => absurd h (by decide), fun _ => ⟨yi67, Or.inr yv67⟩⟩
theorem yc68 : Cond.code ⟨"EmptyChairs$ScriptParser", "takeEnd", "()Z"⟩ prog_8_method_3_code 1 (some .boolean) ∈ lw_tbl := (mt4 _ (List.mem_of_getElem? (i := 154) rfl))
theorem yi68 : Cond.instanceMethod ⟨"EmptyChairs$ScriptParser", "takeEnd", "()Z"⟩ ∈ lw_tbl := (mt4 _ (List.mem_of_getElem? (i := 153) rfl))
theorem yv68 : Cond.selects "EmptyChairs$ScriptParser" ⟨"EmptyChairs$ScriptParser", "takeEnd", "()Z"⟩ ⟨"EmptyChairs$ScriptParser", "takeEnd", "()Z"⟩ ∈ lw_tbl := in_sel (q := (⟨"EmptyChairs$ScriptParser", "takeEnd", "()Z"⟩, 5)) (List.mem_append_right _ (List.mem_append_left _ (List.mem_of_getElem? (i := 7) rfl)))
theorem yok68 : YOk 68 := ⟨yc68, rfl, pn7, ⟨ph7, pv7, pd3⟩, pi7, fun h => absurd h (by decide), fun _ => ⟨yi68, Or.inr yv68⟩⟩
theorem yc69 : Cond.code ⟨"EmptyChairs$ScriptParser", "beginsStep", "(I)Z"⟩ prog_8_method_4_code 1 (some .boolean) ∈ lw_tbl := (mt4 _ (List.mem_of_getElem? (i := 163) rfl))
theorem ys69 : Cond.static ⟨"EmptyChairs$ScriptParser", "beginsStep", "(I)Z"⟩ ∈ lw_tbl := (mt4 _ (List.mem_of_getElem? (i := 162) rfl))
theorem yok69 : YOk 69 := ⟨yc69, rfl, pn7, ⟨ph7, pv7, pd6⟩, pi7, fun _ => ys69, fun h => absurd h (by decide)⟩
theorem yc70 : Cond.code ⟨"EmptyChairs$ScriptParser", "takeStep", "(I)Z"⟩ prog_8_method_5_code 4 (some .boolean) ∈ lw_tbl := (mt4 _ (List.mem_of_getElem? (i := 160) rfl))
theorem yi70 : Cond.instanceMethod ⟨"EmptyChairs$ScriptParser", "takeStep", "(I)Z"⟩ ∈ lw_tbl := (mt4 _ (List.mem_of_getElem? (i := 159) rfl))
theorem yv70 : Cond.selects "EmptyChairs$ScriptParser" ⟨"EmptyChairs$ScriptParser", "takeStep", "(I)Z"⟩ ⟨"EmptyChairs$ScriptParser", "takeStep", "(I)Z"⟩ ∈ lw_tbl := in_sel (q := (⟨"EmptyChairs$ScriptParser", "takeStep", "(I)Z"⟩, 5)) (List.mem_append_right _ (List.mem_append_left _ (List.mem_of_getElem? (i := 8) rfl)))
theorem yok70 : YOk 70 := ⟨yc70, rfl, pn7, ⟨ph7, pv7, pd6⟩, pi7, fun h => absurd h (by decide), fun _ => ⟨yi70, Or.inr yv70⟩⟩
theorem yc71 : Cond.code ⟨"EmptyChairs$ScriptParser", "takeRest", "(II)Z"⟩ prog_8_method_6_code 3 (some .boolean) ∈ lw_tbl := (mt4 _ (List.mem_of_getElem? (i := 168) rfl))
theorem yi71 : Cond.instanceMethod ⟨"EmptyChairs$ScriptParser", "takeRest", "(II)Z"⟩ ∈ lw_tbl := (mt4 _ (List.mem_of_getElem? (i := 167) rfl))
theorem yv71 : Cond.selects "EmptyChairs$ScriptParser" ⟨"EmptyChairs$ScriptParser", "takeRest", "(II)Z"⟩ ⟨"EmptyChairs$ScriptParser", "takeRest", "(II)Z"⟩ ∈ lw_tbl := in_sel (q := (⟨"EmptyChairs$ScriptParser", "takeRest", "(II)Z"⟩, 5)) (List.mem_append_right _ (List.mem_append_left _ (List.mem_of_getElem? (i := 9) rfl)))
theorem yok71 : YOk 71 := ⟨yc71, rfl, pn7, ⟨ph7, pv7, pd10⟩, pi7, fun h => absurd h (by decide), fun _ => ⟨yi71, Or.inr yv71⟩⟩
theorem yc72 : Cond.code ⟨"EmptyChairs$ScriptParser", "takeTest", "(I)Z"⟩ prog_8_method_7_code 3 (some .boolean) ∈ lw_tbl := (mt4 _ (List.mem_of_getElem? (i := 173) rfl))
theorem yi72 : Cond.instanceMethod ⟨"EmptyChairs$ScriptParser", "takeTest", "(I)Z"⟩ ∈ lw_tbl := (mt4 _ (List.mem_of_getElem? (i := 172) rfl))
theorem yv72 : Cond.selects "EmptyChairs$ScriptParser" ⟨"EmptyChairs$ScriptParser", "takeTest", "(I)Z"⟩ ⟨"EmptyChairs$ScriptParser", "takeTest", "(I)Z"⟩ ∈ lw_tbl := in_sel (q := (⟨"EmptyChairs$ScriptParser", "takeTest", "(I)Z"⟩, 5)) (List.mem_append_right _ (List.mem_append_left _ (List.mem_of_getElem? (i := 10) rfl)))
theorem yok72 : YOk 72 := ⟨yc72, rfl, pn7, ⟨ph7, pv7, pd6⟩, pi7, fun h => absurd h (by decide), fun _ => ⟨yi72, Or.inr yv72⟩⟩
theorem yc73 : Cond.code ⟨"EmptyChairs$ScriptParser", "takeName", "(II)Z"⟩ prog_8_method_8_code 3 (some .boolean) ∈ lw_tbl := (mt4 _ (List.mem_of_getElem? (i := 178) rfl))
theorem yi73 : Cond.instanceMethod ⟨"EmptyChairs$ScriptParser", "takeName", "(II)Z"⟩ ∈ lw_tbl := (mt4 _ (List.mem_of_getElem? (i := 177) rfl))
theorem yv73 : Cond.selects "EmptyChairs$ScriptParser" ⟨"EmptyChairs$ScriptParser", "takeName", "(II)Z"⟩ ⟨"EmptyChairs$ScriptParser", "takeName", "(II)Z"⟩ ∈ lw_tbl := in_sel (q := (⟨"EmptyChairs$ScriptParser", "takeName", "(II)Z"⟩, 5)) (List.mem_append_right _ (List.mem_append_left _ (List.mem_of_getElem? (i := 11) rfl)))
theorem yok73 : YOk 73 := ⟨yc73, rfl, pn7, ⟨ph7, pv7, pd10⟩, pi7, fun h => absurd h (by decide), fun _ => ⟨yi73, Or.inr yv73⟩⟩
theorem yc74 : Cond.code ⟨"EmptyChairs$Strategy", "<init>", "(LEmptyChairs$Scale;LEmptyChairs$Assembly;)V"⟩ prog_9_method_1_code 3 (none) ∈ lw_tbl := (mt2 _ (List.mem_of_getElem? (i := 186) rfl))
theorem yi74 : Cond.instanceMethod ⟨"EmptyChairs$Strategy", "<init>", "(LEmptyChairs$Scale;LEmptyChairs$Assembly;)V"⟩ ∈ lw_tbl := (mt2 _ (List.mem_of_getElem? (i := 185) rfl))
theorem yok74 : YOk 74 := ⟨yc74, rfl, pn8, ⟨ph8, pv8, pd45⟩, pi8, fun h => absurd h (by decide), fun _ => ⟨yi74, Or.inl rfl⟩⟩
theorem yc75 : Cond.code ⟨"EmptyChairs$Strategy", "bestAway", "(LEmptyChairs$Assembly;IZ)I"⟩ prog_9_method_2_code 9 (some .int) ∈ lw_tbl := (mt5 _ (List.mem_of_getElem? (i := 202) rfl))
theorem yi75 : Cond.instanceMethod ⟨"EmptyChairs$Strategy", "bestAway", "(LEmptyChairs$Assembly;IZ)I"⟩ ∈ lw_tbl := (mt5 _ (List.mem_of_getElem? (i := 200) rfl))
theorem yv75 : Cond.selects "EmptyChairs$Strategy" ⟨"EmptyChairs$Strategy", "bestAway", "(LEmptyChairs$Assembly;IZ)I"⟩ ⟨"EmptyChairs$Strategy", "bestAway", "(LEmptyChairs$Assembly;IZ)I"⟩ ∈ lw_tbl := (mt5 _ (List.mem_of_getElem? (i := 201) rfl))
theorem yok75 : YOk 75 := ⟨yc75, rfl, pn8, ⟨ph8, pv8, pd40⟩, pi8, fun h => absurd h (by decide), fun _ => ⟨yi75, Or.inr yv75⟩⟩
theorem yc76 : Cond.code ⟨"EmptyChairs$Strategy", "play", "(LEmptyChairs$Assembly;III)I"⟩ prog_9_method_3_code 5 (some .int) ∈ lw_tbl := (mt6 _ (List.mem_of_getElem? (i := 10) rfl))
theorem yi76 : Cond.instanceMethod ⟨"EmptyChairs$Strategy", "play", "(LEmptyChairs$Assembly;III)I"⟩ ∈ lw_tbl := (mt6 _ (List.mem_of_getElem? (i := 8) rfl))
theorem yv76 : Cond.selects "EmptyChairs$Strategy" ⟨"EmptyChairs$Strategy", "play", "(LEmptyChairs$Assembly;III)I"⟩ ⟨"EmptyChairs$Strategy", "play", "(LEmptyChairs$Assembly;III)I"⟩ ∈ lw_tbl := (mt6 _ (List.mem_of_getElem? (i := 9) rfl))
theorem yok76 : YOk 76 := ⟨yc76, rfl, pn8, ⟨ph8, pv8, pd38⟩, pi8, fun h => absurd h (by decide), fun _ => ⟨yi76, Or.inr yv76⟩⟩
theorem yc77 : Cond.code ⟨"EmptyChairs$Strategy", "valueFrom", "(I)I"⟩ prog_9_method_4_code 9 (some .int) ∈ lw_tbl := (mt6 _ (List.mem_of_getElem? (i := 14) rfl))
theorem yi77 : Cond.instanceMethod ⟨"EmptyChairs$Strategy", "valueFrom", "(I)I"⟩ ∈ lw_tbl := (mt6 _ (List.mem_of_getElem? (i := 13) rfl))
theorem yv77 : Cond.selects "EmptyChairs$Strategy" ⟨"EmptyChairs$Strategy", "valueFrom", "(I)I"⟩ ⟨"EmptyChairs$Strategy", "valueFrom", "(I)I"⟩ ∈ lw_tbl := in_sel (q := (⟨"EmptyChairs$Strategy", "valueFrom", "(I)I"⟩, 6)) (List.mem_append_right _ (List.mem_append_right _ (List.mem_append_left _ (List.mem_of_getElem? (i := 8) rfl))))
theorem yok77 : YOk 77 := ⟨yc77, rfl, pn8, ⟨ph8, pv8, pd4⟩, pi8, fun h => absurd h (by decide), fun _ => ⟨yi77, Or.inr yv77⟩⟩
theorem yc78 : Cond.code ⟨"EmptyChairs$Strategy", "valueOf", "(II)I"⟩ prog_9_method_5_code 6 (some .int) ∈ lw_tbl := (mt6 _ (List.mem_of_getElem? (i := 19) rfl))
theorem yi78 : Cond.instanceMethod ⟨"EmptyChairs$Strategy", "valueOf", "(II)I"⟩ ∈ lw_tbl := (mt6 _ (List.mem_of_getElem? (i := 18) rfl))
theorem yv78 : Cond.selects "EmptyChairs$Strategy" ⟨"EmptyChairs$Strategy", "valueOf", "(II)I"⟩ ⟨"EmptyChairs$Strategy", "valueOf", "(II)I"⟩ ∈ lw_tbl := in_sel (q := (⟨"EmptyChairs$Strategy", "valueOf", "(II)I"⟩, 6)) (List.mem_append_right _ (List.mem_append_right _ (List.mem_append_left _ (List.mem_of_getElem? (i := 9) rfl))))
theorem yok78 : YOk 78 := ⟨yc78, rfl, pn8, ⟨ph8, pv8, pd7⟩, pi8, fun h => absurd h (by decide), fun _ => ⟨yi78, Or.inr yv78⟩⟩
theorem yc79 : Cond.code ⟨"EmptyChairs$Tallies", "<init>", "(LEmptyChairs$Scale;)V"⟩ prog_10_method_1_code 2 (none) ∈ lw_tbl := (mt2 _ (List.mem_of_getElem? (i := 212) rfl))
theorem yi79 : Cond.instanceMethod ⟨"EmptyChairs$Tallies", "<init>", "(LEmptyChairs$Scale;)V"⟩ ∈ lw_tbl := (mt2 _ (List.mem_of_getElem? (i := 211) rfl))
theorem yok79 : YOk 79 := ⟨yc79, rfl, pn9, ⟨ph9, pv9, pd44⟩, pi9, fun h => absurd h (by decide), fun _ => ⟨yi79, Or.inl rfl⟩⟩
theorem yc80 : Cond.code ⟨"EmptyChairs$Tallies", "reckon", "(LEmptyChairs$Assembly;LEmptyChairs$Tray;)V"⟩ prog_10_method_2_code 5 (none) ∈ lw_tbl := (mt6 _ (List.mem_of_getElem? (i := 81) rfl))
theorem yi80 : Cond.instanceMethod ⟨"EmptyChairs$Tallies", "reckon", "(LEmptyChairs$Assembly;LEmptyChairs$Tray;)V"⟩ ∈ lw_tbl := (mt6 _ (List.mem_of_getElem? (i := 79) rfl))
theorem yv80 : Cond.selects "EmptyChairs$Tallies" ⟨"EmptyChairs$Tallies", "reckon", "(LEmptyChairs$Assembly;LEmptyChairs$Tray;)V"⟩ ⟨"EmptyChairs$Tallies", "reckon", "(LEmptyChairs$Assembly;LEmptyChairs$Tray;)V"⟩ ∈ lw_tbl := (mt6 _ (List.mem_of_getElem? (i := 80) rfl))
theorem yok80 : YOk 80 := ⟨yc80, rfl, pn9, ⟨ph9, pv9, pd41⟩, pi9, fun h => absurd h (by decide), fun _ => ⟨yi80, Or.inr yv80⟩⟩
theorem yc81 : Cond.code ⟨"EmptyChairs$Tallies", "isTallied", "(LEmptyChairs$Assembly;IILEmptyChairs$Tray;)Z"⟩ prog_10_method_3_code 6 (some .boolean) ∈ lw_tbl := (mt6 _ (List.mem_of_getElem? (i := 88) rfl))
theorem yi81 : Cond.instanceMethod ⟨"EmptyChairs$Tallies", "isTallied", "(LEmptyChairs$Assembly;IILEmptyChairs$Tray;)Z"⟩ ∈ lw_tbl := (mt6 _ (List.mem_of_getElem? (i := 87) rfl))
theorem yv81 : Cond.selects "EmptyChairs$Tallies" ⟨"EmptyChairs$Tallies", "isTallied", "(LEmptyChairs$Assembly;IILEmptyChairs$Tray;)Z"⟩ ⟨"EmptyChairs$Tallies", "isTallied", "(LEmptyChairs$Assembly;IILEmptyChairs$Tray;)Z"⟩ ∈ lw_tbl := in_sel (q := (⟨"EmptyChairs$Tallies", "isTallied", "(LEmptyChairs$Assembly;IILEmptyChairs$Tray;)Z"⟩, 4)) (List.mem_append_right _ (List.mem_append_right _ (List.mem_append_left _ (List.mem_of_getElem? (i := 11) rfl))))
theorem yok81 : YOk 81 := ⟨yc81, rfl, pn9, ⟨ph9, pv9, pd39⟩, pi9, fun h => absurd h (by decide), fun _ => ⟨yi81, Or.inr yv81⟩⟩
theorem yc82 : Cond.code ⟨"EmptyChairs$Tallies", "addWay", "(LEmptyChairs$Assembly;I)V"⟩ prog_10_method_4_code 4 (none) ∈ lw_tbl := (mt6 _ (List.mem_of_getElem? (i := 93) rfl))
theorem yi82 : Cond.instanceMethod ⟨"EmptyChairs$Tallies", "addWay", "(LEmptyChairs$Assembly;I)V"⟩ ∈ lw_tbl := (mt6 _ (List.mem_of_getElem? (i := 92) rfl))
theorem yv82 : Cond.selects "EmptyChairs$Tallies" ⟨"EmptyChairs$Tallies", "addWay", "(LEmptyChairs$Assembly;I)V"⟩ ⟨"EmptyChairs$Tallies", "addWay", "(LEmptyChairs$Assembly;I)V"⟩ ∈ lw_tbl := in_sel (q := (⟨"EmptyChairs$Tallies", "addWay", "(LEmptyChairs$Assembly;I)V"⟩, 4)) (List.mem_append_right _ (List.mem_append_right _ (List.mem_append_left _ (List.mem_of_getElem? (i := 12) rfl))))
theorem yok82 : YOk 82 := ⟨yc82, rfl, pn9, ⟨ph9, pv9, pd37⟩, pi9, fun h => absurd h (by decide), fun _ => ⟨yi82, Or.inr yv82⟩⟩
theorem yc83 : Cond.code ⟨"EmptyChairs$Tallies", "bestToAsk", "(LEmptyChairs$Assembly;)I"⟩ prog_10_method_5_code 7 (some .int) ∈ lw_tbl := (mt6 _ (List.mem_of_getElem? (i := 105) rfl))
theorem yi83 : Cond.instanceMethod ⟨"EmptyChairs$Tallies", "bestToAsk", "(LEmptyChairs$Assembly;)I"⟩ ∈ lw_tbl := (mt6 _ (List.mem_of_getElem? (i := 103) rfl))
theorem yv83 : Cond.selects "EmptyChairs$Tallies" ⟨"EmptyChairs$Tallies", "bestToAsk", "(LEmptyChairs$Assembly;)I"⟩ ⟨"EmptyChairs$Tallies", "bestToAsk", "(LEmptyChairs$Assembly;)I"⟩ ∈ lw_tbl := (mt6 _ (List.mem_of_getElem? (i := 104) rfl))
theorem yok83 : YOk 83 := ⟨yc83, rfl, pn9, ⟨ph9, pv9, pd34⟩, pi9, fun h => absurd h (by decide), fun _ => ⟨yi83, Or.inr yv83⟩⟩
theorem yc84 : Cond.code ⟨"EmptyChairs$Tape", "<init>", "()V"⟩ prog_11_method_1_code 6 (none) ∈ lw_tbl := (mt1 _ (List.mem_of_getElem? (i := 56) rfl))
theorem yi84 : Cond.instanceMethod ⟨"EmptyChairs$Tape", "<init>", "()V"⟩ ∈ lw_tbl := (mt1 _ (List.mem_of_getElem? (i := 55) rfl))
theorem yok84 : YOk 84 := ⟨yc84, rfl, pn10, ⟨ph10, pv10, pd2⟩, pi10, fun h => absurd h (by decide), fun _ => ⟨yi84, Or.inl rfl⟩⟩
theorem yc85 : Cond.code ⟨"EmptyChairs$Tape", "hasSpace", "()Z"⟩ prog_11_method_2_code 1 (some .boolean) ∈ lw_tbl := (mt3 _ (List.mem_of_getElem? (i := 205) rfl))
theorem yi85 : Cond.instanceMethod ⟨"EmptyChairs$Tape", "hasSpace", "()Z"⟩ ∈ lw_tbl := (mt3 _ (List.mem_of_getElem? (i := 203) rfl))
theorem yv85 : Cond.selects "EmptyChairs$Tape" ⟨"EmptyChairs$Tape", "hasSpace", "()Z"⟩ ⟨"EmptyChairs$Tape", "hasSpace", "()Z"⟩ ∈ lw_tbl := (mt3 _ (List.mem_of_getElem? (i := 204) rfl))
theorem yok85 : YOk 85 := ⟨yc85, rfl, pn10, ⟨ph10, pv10, pd3⟩, pi10, fun h => absurd h (by decide), fun _ => ⟨yi85, Or.inr yv85⟩⟩
theorem yc86 : Cond.code ⟨"EmptyChairs$Tape", "append", "(I)V"⟩ prog_11_method_3_code 3 (none) ∈ lw_tbl := (mt3 _ (List.mem_of_getElem? (i := 209) rfl))
theorem yi86 : Cond.instanceMethod ⟨"EmptyChairs$Tape", "append", "(I)V"⟩ ∈ lw_tbl := (mt3 _ (List.mem_of_getElem? (i := 207) rfl))
theorem yv86 : Cond.selects "EmptyChairs$Tape" ⟨"EmptyChairs$Tape", "append", "(I)V"⟩ ⟨"EmptyChairs$Tape", "append", "(I)V"⟩ ∈ lw_tbl := (mt3 _ (List.mem_of_getElem? (i := 208) rfl))
theorem yok86 : YOk 86 := ⟨yc86, rfl, pn10, ⟨ph10, pv10, pd5⟩, pi10, fun h => absurd h (by decide), fun _ => ⟨yi86, Or.inr yv86⟩⟩
theorem yc87 : Cond.code ⟨"EmptyChairs$Tape", "begin", "(I)V"⟩ prog_11_method_4_code 2 (none) ∈ lw_tbl := (mt3 _ (List.mem_of_getElem? (i := 232) rfl))
theorem yi87 : Cond.instanceMethod ⟨"EmptyChairs$Tape", "begin", "(I)V"⟩ ∈ lw_tbl := (mt3 _ (List.mem_of_getElem? (i := 230) rfl))
theorem yv87 : Cond.selects "EmptyChairs$Tape" ⟨"EmptyChairs$Tape", "begin", "(I)V"⟩ ⟨"EmptyChairs$Tape", "begin", "(I)V"⟩ ∈ lw_tbl := (mt3 _ (List.mem_of_getElem? (i := 231) rfl))
theorem yok87 : YOk 87 := ⟨yc87, rfl, pn10, ⟨ph10, pv10, pd5⟩, pi10, fun h => absurd h (by decide), fun _ => ⟨yi87, Or.inr yv87⟩⟩
theorem yc88 : Cond.code ⟨"EmptyChairs$Tape", "advance", "()V"⟩ prog_11_method_5_code 1 (none) ∈ lw_tbl := (mt3 _ (List.mem_of_getElem? (i := 236) rfl))
theorem yi88 : Cond.instanceMethod ⟨"EmptyChairs$Tape", "advance", "()V"⟩ ∈ lw_tbl := (mt3 _ (List.mem_of_getElem? (i := 234) rfl))
theorem yv88 : Cond.selects "EmptyChairs$Tape" ⟨"EmptyChairs$Tape", "advance", "()V"⟩ ⟨"EmptyChairs$Tape", "advance", "()V"⟩ ∈ lw_tbl := (mt3 _ (List.mem_of_getElem? (i := 235) rfl))
theorem yok88 : YOk 88 := ⟨yc88, rfl, pn10, ⟨ph10, pv10, pd2⟩, pi10, fun h => absurd h (by decide), fun _ => ⟨yi88, Or.inr yv88⟩⟩
theorem yc89 : Cond.code ⟨"EmptyChairs$Tape", "readWord", "()V"⟩ prog_11_method_6_code 2 (none) ∈ lw_tbl := (mt4 _ (List.mem_of_getElem? (i := 0) rfl))
theorem yi89 : Cond.instanceMethod ⟨"EmptyChairs$Tape", "readWord", "()V"⟩ ∈ lw_tbl := (mt3 _ (List.mem_of_getElem? (i := 239) rfl))
theorem yv89 : Cond.selects "EmptyChairs$Tape" ⟨"EmptyChairs$Tape", "readWord", "()V"⟩ ⟨"EmptyChairs$Tape", "readWord", "()V"⟩ ∈ lw_tbl := in_sel (q := (⟨"EmptyChairs$Tape", "readWord", "()V"⟩, 14)) (List.mem_append_left _ (List.mem_of_getElem? (i := 6) rfl))
theorem yok89 : YOk 89 := ⟨yc89, rfl, pn10, ⟨ph10, pv10, pd2⟩, pi10, fun h => absurd h (by decide), fun _ => ⟨yi89, Or.inr yv89⟩⟩
theorem yc90 : Cond.code ⟨"EmptyChairs$Tape", "readDigits", "()V"⟩ prog_11_method_7_code 1 (none) ∈ lw_tbl := (mt4 _ (List.mem_of_getElem? (i := 4) rfl))
theorem yi90 : Cond.instanceMethod ⟨"EmptyChairs$Tape", "readDigits", "()V"⟩ ∈ lw_tbl := (mt4 _ (List.mem_of_getElem? (i := 3) rfl))
theorem yv90 : Cond.selects "EmptyChairs$Tape" ⟨"EmptyChairs$Tape", "readDigits", "()V"⟩ ⟨"EmptyChairs$Tape", "readDigits", "()V"⟩ ∈ lw_tbl := in_sel (q := (⟨"EmptyChairs$Tape", "readDigits", "()V"⟩, 14)) (List.mem_append_left _ (List.mem_of_getElem? (i := 7) rfl))
theorem yok90 : YOk 90 := ⟨yc90, rfl, pn10, ⟨ph10, pv10, pd2⟩, pi10, fun h => absurd h (by decide), fun _ => ⟨yi90, Or.inr yv90⟩⟩
theorem yc91 : Cond.code ⟨"EmptyChairs$Tape", "readSign", "()V"⟩ prog_11_method_8_code 1 (none) ∈ lw_tbl := (mt4 _ (List.mem_of_getElem? (i := 8) rfl))
theorem yi91 : Cond.instanceMethod ⟨"EmptyChairs$Tape", "readSign", "()V"⟩ ∈ lw_tbl := (mt4 _ (List.mem_of_getElem? (i := 7) rfl))
theorem yv91 : Cond.selects "EmptyChairs$Tape" ⟨"EmptyChairs$Tape", "readSign", "()V"⟩ ⟨"EmptyChairs$Tape", "readSign", "()V"⟩ ∈ lw_tbl := in_sel (q := (⟨"EmptyChairs$Tape", "readSign", "()V"⟩, 14)) (List.mem_append_left _ (List.mem_of_getElem? (i := 8) rfl))
theorem yok91 : YOk 91 := ⟨yc91, rfl, pn10, ⟨ph10, pv10, pd2⟩, pi10, fun h => absurd h (by decide), fun _ => ⟨yi91, Or.inr yv91⟩⟩
theorem yc92 : Cond.code ⟨"EmptyChairs$Tape", "isAtEnd", "()Z"⟩ prog_11_method_9_code 1 (some .boolean) ∈ lw_tbl := (mt4 _ (List.mem_of_getElem? (i := 12) rfl))
theorem yi92 : Cond.instanceMethod ⟨"EmptyChairs$Tape", "isAtEnd", "()Z"⟩ ∈ lw_tbl := (mt4 _ (List.mem_of_getElem? (i := 10) rfl))
theorem yv92 : Cond.selects "EmptyChairs$Tape" ⟨"EmptyChairs$Tape", "isAtEnd", "()Z"⟩ ⟨"EmptyChairs$Tape", "isAtEnd", "()Z"⟩ ∈ lw_tbl := (mt4 _ (List.mem_of_getElem? (i := 11) rfl))
theorem yok92 : YOk 92 := ⟨yc92, rfl, pn10, ⟨ph10, pv10, pd3⟩, pi10, fun h => absurd h (by decide), fun _ => ⟨yi92, Or.inr yv92⟩⟩
theorem yc93 : Cond.code ⟨"EmptyChairs$Tape", "isName", "()Z"⟩ prog_11_method_10_code 1 (some .boolean) ∈ lw_tbl := (mt4 _ (List.mem_of_getElem? (i := 50) rfl))
theorem yi93 : Cond.instanceMethod ⟨"EmptyChairs$Tape", "isName", "()Z"⟩ ∈ lw_tbl := (mt4 _ (List.mem_of_getElem? (i := 48) rfl))
theorem yv93 : Cond.selects "EmptyChairs$Tape" ⟨"EmptyChairs$Tape", "isName", "()Z"⟩ ⟨"EmptyChairs$Tape", "isName", "()Z"⟩ ∈ lw_tbl := (mt4 _ (List.mem_of_getElem? (i := 49) rfl))
theorem yok93 : YOk 93 := ⟨yc93, rfl, pn10, ⟨ph10, pv10, pd3⟩, pi10, fun h => absurd h (by decide), fun _ => ⟨yi93, Or.inr yv93⟩⟩
theorem yc94 : Cond.code ⟨"EmptyChairs$Tape", "refuse", "(I)Z"⟩ prog_11_method_11_code 2 (some .boolean) ∈ lw_tbl := (mt4 _ (List.mem_of_getElem? (i := 24) rfl))
theorem yi94 : Cond.instanceMethod ⟨"EmptyChairs$Tape", "refuse", "(I)Z"⟩ ∈ lw_tbl := (mt4 _ (List.mem_of_getElem? (i := 22) rfl))
theorem yv94 : Cond.selects "EmptyChairs$Tape" ⟨"EmptyChairs$Tape", "refuse", "(I)Z"⟩ ⟨"EmptyChairs$Tape", "refuse", "(I)Z"⟩ ∈ lw_tbl := (mt4 _ (List.mem_of_getElem? (i := 23) rfl))
theorem yok94 : YOk 94 := ⟨yc94, rfl, pn10, ⟨ph10, pv10, pd6⟩, pi10, fun h => absurd h (by decide), fun _ => ⟨yi94, Or.inr yv94⟩⟩
theorem yc95 : Cond.code ⟨"EmptyChairs$Tape", "takeKey", "(I)Z"⟩ prog_11_method_12_code 2 (some .boolean) ∈ lw_tbl := (mt4 _ (List.mem_of_getElem? (i := 81) rfl))
theorem yi95 : Cond.instanceMethod ⟨"EmptyChairs$Tape", "takeKey", "(I)Z"⟩ ∈ lw_tbl := (mt4 _ (List.mem_of_getElem? (i := 79) rfl))
theorem yv95 : Cond.selects "EmptyChairs$Tape" ⟨"EmptyChairs$Tape", "takeKey", "(I)Z"⟩ ⟨"EmptyChairs$Tape", "takeKey", "(I)Z"⟩ ∈ lw_tbl := (mt4 _ (List.mem_of_getElem? (i := 80) rfl))
theorem yok95 : YOk 95 := ⟨yc95, rfl, pn10, ⟨ph10, pv10, pd6⟩, pi10, fun h => absurd h (by decide), fun _ => ⟨yi95, Or.inr yv95⟩⟩
theorem yc96 : Cond.code ⟨"EmptyChairs$Tape", "skipKey", "(I)Z"⟩ prog_11_method_13_code 3 (some .boolean) ∈ lw_tbl := (mt4 _ (List.mem_of_getElem? (i := 98) rfl))
theorem yi96 : Cond.instanceMethod ⟨"EmptyChairs$Tape", "skipKey", "(I)Z"⟩ ∈ lw_tbl := (mt4 _ (List.mem_of_getElem? (i := 96) rfl))
theorem yv96 : Cond.selects "EmptyChairs$Tape" ⟨"EmptyChairs$Tape", "skipKey", "(I)Z"⟩ ⟨"EmptyChairs$Tape", "skipKey", "(I)Z"⟩ ∈ lw_tbl := (mt4 _ (List.mem_of_getElem? (i := 97) rfl))
theorem yok96 : YOk 96 := ⟨yc96, rfl, pn10, ⟨ph10, pv10, pd6⟩, pi10, fun h => absurd h (by decide), fun _ => ⟨yi96, Or.inr yv96⟩⟩
theorem yc97 : Cond.code ⟨"EmptyChairs$Tape", "takeNumber", "(II)Z"⟩ prog_11_method_14_code 3 (some .boolean) ∈ lw_tbl := (mt4 _ (List.mem_of_getElem? (i := 33) rfl))
theorem yi97 : Cond.instanceMethod ⟨"EmptyChairs$Tape", "takeNumber", "(II)Z"⟩ ∈ lw_tbl := (mt4 _ (List.mem_of_getElem? (i := 31) rfl))
theorem yv97 : Cond.selects "EmptyChairs$Tape" ⟨"EmptyChairs$Tape", "takeNumber", "(II)Z"⟩ ⟨"EmptyChairs$Tape", "takeNumber", "(II)Z"⟩ ∈ lw_tbl := (mt4 _ (List.mem_of_getElem? (i := 32) rfl))
theorem yok97 : YOk 97 := ⟨yc97, rfl, pn10, ⟨ph10, pv10, pd10⟩, pi10, fun h => absurd h (by decide), fun _ => ⟨yi97, Or.inr yv97⟩⟩
theorem yc98 : Cond.code ⟨"EmptyChairs$Tape", "takeClose", "()Z"⟩ prog_11_method_15_code 1 (some .boolean) ∈ lw_tbl := (mt4 _ (List.mem_of_getElem? (i := 38) rfl))
theorem yi98 : Cond.instanceMethod ⟨"EmptyChairs$Tape", "takeClose", "()Z"⟩ ∈ lw_tbl := (mt4 _ (List.mem_of_getElem? (i := 36) rfl))
theorem yv98 : Cond.selects "EmptyChairs$Tape" ⟨"EmptyChairs$Tape", "takeClose", "()Z"⟩ ⟨"EmptyChairs$Tape", "takeClose", "()Z"⟩ ∈ lw_tbl := (mt4 _ (List.mem_of_getElem? (i := 37) rfl))
theorem yok98 : YOk 98 := ⟨yc98, rfl, pn10, ⟨ph10, pv10, pd3⟩, pi10, fun h => absurd h (by decide), fun _ => ⟨yi98, Or.inr yv98⟩⟩
theorem yc99 : Cond.code ⟨"EmptyChairs$Tape", "takeCompares", "()Z"⟩ prog_11_method_16_code 1 (some .boolean) ∈ lw_tbl := (mt4 _ (List.mem_of_getElem? (i := 185) rfl))
theorem yi99 : Cond.instanceMethod ⟨"EmptyChairs$Tape", "takeCompares", "()Z"⟩ ∈ lw_tbl := (mt4 _ (List.mem_of_getElem? (i := 183) rfl))
theorem yv99 : Cond.selects "EmptyChairs$Tape" ⟨"EmptyChairs$Tape", "takeCompares", "()Z"⟩ ⟨"EmptyChairs$Tape", "takeCompares", "()Z"⟩ ∈ lw_tbl := (mt4 _ (List.mem_of_getElem? (i := 184) rfl))
theorem yok99 : YOk 99 := ⟨yc99, rfl, pn10, ⟨ph10, pv10, pd3⟩, pi10, fun h => absurd h (by decide), fun _ => ⟨yi99, Or.inr yv99⟩⟩
theorem yc100 : Cond.code ⟨"EmptyChairs$Tray", "<init>", "()V"⟩ prog_12_method_1_code 1 (none) ∈ lw_tbl := (mt1 _ (List.mem_of_getElem? (i := 35) rfl))
theorem yi100 : Cond.instanceMethod ⟨"EmptyChairs$Tray", "<init>", "()V"⟩ ∈ lw_tbl := (mt1 _ (List.mem_of_getElem? (i := 34) rfl))
theorem yok100 : YOk 100 := ⟨yc100, rfl, pn11, ⟨ph11, pv11, pd2⟩, pi11, fun h => absurd h (by decide), fun _ => ⟨yi100, Or.inl rfl⟩⟩
theorem yc101 : Cond.code ⟨"EmptyChairs$Tray", "isMissing", "()Z"⟩ prog_12_method_2_code 1 (some .boolean) ∈ lw_tbl := (mt3 _ (List.mem_of_getElem? (i := 172) rfl))
theorem yi101 : Cond.instanceMethod ⟨"EmptyChairs$Tray", "isMissing", "()Z"⟩ ∈ lw_tbl := (mt3 _ (List.mem_of_getElem? (i := 170) rfl))
theorem yv101 : Cond.selects "EmptyChairs$Tray" ⟨"EmptyChairs$Tray", "isMissing", "()Z"⟩ ⟨"EmptyChairs$Tray", "isMissing", "()Z"⟩ ∈ lw_tbl := (mt3 _ (List.mem_of_getElem? (i := 171) rfl))
theorem yok101 : YOk 101 := ⟨yc101, rfl, pn11, ⟨ph11, pv11, pd3⟩, pi11, fun h => absurd h (by decide), fun _ => ⟨yi101, Or.inr yv101⟩⟩
theorem yc102 : Cond.code ⟨"EmptyChairs$Tray", "lay", "(II)V"⟩ prog_12_method_3_code 3 (none) ∈ lw_tbl := (mt3 _ (List.mem_of_getElem? (i := 149) rfl))
theorem yi102 : Cond.instanceMethod ⟨"EmptyChairs$Tray", "lay", "(II)V"⟩ ∈ lw_tbl := (mt3 _ (List.mem_of_getElem? (i := 147) rfl))
theorem yv102 : Cond.selects "EmptyChairs$Tray" ⟨"EmptyChairs$Tray", "lay", "(II)V"⟩ ⟨"EmptyChairs$Tray", "lay", "(II)V"⟩ ∈ lw_tbl := (mt3 _ (List.mem_of_getElem? (i := 148) rfl))
theorem yok102 : YOk 102 := ⟨yc102, rfl, pn11, ⟨ph11, pv11, pd9⟩, pi11, fun h => absurd h (by decide), fun _ => ⟨yi102, Or.inr yv102⟩⟩
theorem yc103 : Cond.code ⟨"EmptyChairs$Tray", "holds", "(II)Z"⟩ prog_12_method_4_code 3 (some .boolean) ∈ lw_tbl := (mt3 _ (List.mem_of_getElem? (i := 196) rfl))
theorem yi103 : Cond.instanceMethod ⟨"EmptyChairs$Tray", "holds", "(II)Z"⟩ ∈ lw_tbl := (mt3 _ (List.mem_of_getElem? (i := 194) rfl))
theorem yv103 : Cond.selects "EmptyChairs$Tray" ⟨"EmptyChairs$Tray", "holds", "(II)Z"⟩ ⟨"EmptyChairs$Tray", "holds", "(II)Z"⟩ ∈ lw_tbl := (mt3 _ (List.mem_of_getElem? (i := 195) rfl))
theorem yok103 : YOk 103 := ⟨yc103, rfl, pn11, ⟨ph11, pv11, pd10⟩, pi11, fun h => absurd h (by decide), fun _ => ⟨yi103, Or.inr yv103⟩⟩
theorem yc104 : Cond.code ⟨"EmptyChairs$Tray", "put", "(IJ)V"⟩ prog_12_method_5_code 4 (none) ∈ lw_tbl := (mt3 _ (List.mem_of_getElem? (i := 176) rfl))
theorem yi104 : Cond.instanceMethod ⟨"EmptyChairs$Tray", "put", "(IJ)V"⟩ ∈ lw_tbl := (mt3 _ (List.mem_of_getElem? (i := 174) rfl))
theorem yv104 : Cond.selects "EmptyChairs$Tray" ⟨"EmptyChairs$Tray", "put", "(IJ)V"⟩ ⟨"EmptyChairs$Tray", "put", "(IJ)V"⟩ ∈ lw_tbl := (mt3 _ (List.mem_of_getElem? (i := 175) rfl))
theorem yok104 : YOk 104 := ⟨yc104, rfl, pn11, ⟨ph11, pv11, pd22⟩, pi11, fun h => absurd h (by decide), fun _ => ⟨yi104, Or.inr yv104⟩⟩
theorem yc105 : Cond.code ⟨"EmptyChairs$Tray", "cut", "(J)J"⟩ prog_12_method_6_code 3 (some .long) ∈ lw_tbl := (mt3 _ (List.mem_of_getElem? (i := 180) rfl))
theorem yi105 : Cond.instanceMethod ⟨"EmptyChairs$Tray", "cut", "(J)J"⟩ ∈ lw_tbl := (mt3 _ (List.mem_of_getElem? (i := 179) rfl))
theorem yv105 : Cond.selects "EmptyChairs$Tray" ⟨"EmptyChairs$Tray", "cut", "(J)J"⟩ ⟨"EmptyChairs$Tray", "cut", "(J)J"⟩ ∈ lw_tbl := in_sel (q := (⟨"EmptyChairs$Tray", "cut", "(J)J"⟩, 3)) (List.mem_append_left _ (List.mem_of_getElem? (i := 4) rfl))
theorem yok105 : YOk 105 := ⟨yc105, rfl, pn11, ⟨ph11, pv11, pd28⟩, pi11, fun h => absurd h (by decide), fun _ => ⟨yi105, Or.inr yv105⟩⟩
theorem yc106 : Cond.code ⟨"EmptyChairs", "<init>", "()V"⟩ prog_1_method_1_code 2 (none) ∈ lw_tbl := (mt1 _ (List.mem_of_getElem? (i := 26) rfl))
theorem yi106 : Cond.instanceMethod ⟨"EmptyChairs", "<init>", "()V"⟩ ∈ lw_tbl := (mt1 _ (List.mem_of_getElem? (i := 25) rfl))
theorem yok106 : YOk 106 := ⟨yc106, rfl, pn0, ⟨ph0, pv0, pd2⟩, pi0, fun h => absurd h (by decide), fun _ => ⟨yi106, Or.inl rfl⟩⟩
theorem yc107 : Cond.code ⟨"EmptyChairs", "status", "()I"⟩ prog_1_method_2_code 1 (some .int) ∈ lw_tbl := (mt3 _ (List.mem_of_getElem? (i := 123) rfl))
theorem yi107 : Cond.instanceMethod ⟨"EmptyChairs", "status", "()I"⟩ ∈ lw_tbl := (mt3 _ (List.mem_of_getElem? (i := 121) rfl))
theorem yv107 : Cond.selects "EmptyChairs" ⟨"EmptyChairs", "status", "()I"⟩ ⟨"EmptyChairs", "status", "()I"⟩ ∈ lw_tbl := (mt3 _ (List.mem_of_getElem? (i := 122) rfl))
theorem yok107 : YOk 107 := ⟨yc107, rfl, pn0, ⟨ph0, pv0, pd0⟩, pi0, fun h => absurd h (by decide), fun _ => ⟨yi107, Or.inr yv107⟩⟩
theorem yc108 : Cond.code ⟨"EmptyChairs", "top", "()J"⟩ prog_1_method_3_code 1 (some .long) ∈ lw_tbl := (mt3 _ (List.mem_of_getElem? (i := 127) rfl))
theorem yi108 : Cond.instanceMethod ⟨"EmptyChairs", "top", "()J"⟩ ∈ lw_tbl := (mt3 _ (List.mem_of_getElem? (i := 125) rfl))
theorem yv108 : Cond.selects "EmptyChairs" ⟨"EmptyChairs", "top", "()J"⟩ ⟨"EmptyChairs", "top", "()J"⟩ ∈ lw_tbl := (mt3 _ (List.mem_of_getElem? (i := 126) rfl))
theorem yok108 : YOk 108 := ⟨yc108, rfl, pn0, ⟨ph0, pv0, pd1⟩, pi0, fun h => absurd h (by decide), fun _ => ⟨yi108, Or.inr yv108⟩⟩
theorem yc109 : Cond.code ⟨"EmptyChairs", "bottom", "()J"⟩ prog_1_method_4_code 1 (some .long) ∈ lw_tbl := (mt3 _ (List.mem_of_getElem? (i := 131) rfl))
theorem yi109 : Cond.instanceMethod ⟨"EmptyChairs", "bottom", "()J"⟩ ∈ lw_tbl := (mt3 _ (List.mem_of_getElem? (i := 129) rfl))
theorem yv109 : Cond.selects "EmptyChairs" ⟨"EmptyChairs", "bottom", "()J"⟩ ⟨"EmptyChairs", "bottom", "()J"⟩ ∈ lw_tbl := (mt3 _ (List.mem_of_getElem? (i := 130) rfl))
theorem yok109 : YOk 109 := ⟨yc109, rfl, pn0, ⟨ph0, pv0, pd1⟩, pi0, fun h => absurd h (by decide), fun _ => ⟨yi109, Or.inr yv109⟩⟩
theorem yc110 : Cond.code ⟨"EmptyChairs", "answer", "(I)I"⟩ prog_1_method_5_code 2 (some .int) ∈ lw_tbl := (mt4 _ (List.mem_of_getElem? (i := 136) rfl))
theorem yi110 : Cond.instanceMethod ⟨"EmptyChairs", "answer", "(I)I"⟩ ∈ lw_tbl := (mt4 _ (List.mem_of_getElem? (i := 135) rfl))
theorem yv110 : Cond.selects "EmptyChairs" ⟨"EmptyChairs", "answer", "(I)I"⟩ ⟨"EmptyChairs", "answer", "(I)I"⟩ ∈ lw_tbl := in_sel (q := (⟨"EmptyChairs", "answer", "(I)I"⟩, 18)) (List.mem_append_right _ (List.mem_append_left _ (List.mem_of_getElem? (i := 6) rfl)))
theorem yok110 : YOk 110 := ⟨yc110, rfl, pn0, ⟨ph0, pv0, pd4⟩, pi0, fun h => absurd h (by decide), fun _ => ⟨yi110, Or.inr yv110⟩⟩
theorem yc111 : Cond.code ⟨"EmptyChairs", "refuse", "(I)I"⟩ prog_1_method_6_code 2 (some .int) ∈ lw_tbl := (mt3 _ (List.mem_of_getElem? (i := 188) rfl))
theorem yi111 : Cond.instanceMethod ⟨"EmptyChairs", "refuse", "(I)I"⟩ ∈ lw_tbl := (mt3 _ (List.mem_of_getElem? (i := 187) rfl))
theorem yv111 : Cond.selects "EmptyChairs" ⟨"EmptyChairs", "refuse", "(I)I"⟩ ⟨"EmptyChairs", "refuse", "(I)I"⟩ ∈ lw_tbl := in_sel (q := (⟨"EmptyChairs", "refuse", "(I)I"⟩, 18)) (List.mem_append_left _ (List.mem_of_getElem? (i := 5) rfl))
theorem yok111 : YOk 111 := ⟨yc111, rfl, pn0, ⟨ph0, pv0, pd4⟩, pi0, fun h => absurd h (by decide), fun _ => ⟨yi111, Or.inr yv111⟩⟩
theorem yc112 : Cond.code ⟨"EmptyChairs", "answerOrNone", "(I)I"⟩ prog_1_method_7_code 2 (some .int) ∈ lw_tbl := (mt5 _ (List.mem_of_getElem? (i := 40) rfl))
theorem yi112 : Cond.instanceMethod ⟨"EmptyChairs", "answerOrNone", "(I)I"⟩ ∈ lw_tbl := (mt5 _ (List.mem_of_getElem? (i := 39) rfl))
theorem yv112 : Cond.selects "EmptyChairs" ⟨"EmptyChairs", "answerOrNone", "(I)I"⟩ ⟨"EmptyChairs", "answerOrNone", "(I)I"⟩ ∈ lw_tbl := in_sel (q := (⟨"EmptyChairs", "answerOrNone", "(I)I"⟩, 18)) (List.mem_append_right _ (List.mem_append_right _ (List.mem_append_left _ (List.mem_of_getElem? (i := 2) rfl))))
theorem yok112 : YOk 112 := ⟨yc112, rfl, pn0, ⟨ph0, pv0, pd4⟩, pi0, fun h => absurd h (by decide), fun _ => ⟨yi112, Or.inr yv112⟩⟩
theorem yc113 : Cond.code ⟨"EmptyChairs", "done", "()Z"⟩ prog_1_method_8_code 1 (some .boolean) ∈ lw_tbl := (mt3 _ (List.mem_of_getElem? (i := 156) rfl))
theorem yi113 : Cond.instanceMethod ⟨"EmptyChairs", "done", "()Z"⟩ ∈ lw_tbl := (mt3 _ (List.mem_of_getElem? (i := 155) rfl))
theorem yv113 : Cond.selects "EmptyChairs" ⟨"EmptyChairs", "done", "()Z"⟩ ⟨"EmptyChairs", "done", "()Z"⟩ ∈ lw_tbl := in_sel (q := (⟨"EmptyChairs", "done", "()Z"⟩, 18)) (List.mem_append_left _ (List.mem_of_getElem? (i := 1) rfl))
theorem yok113 : YOk 113 := ⟨yc113, rfl, pn0, ⟨ph0, pv0, pd3⟩, pi0, fun h => absurd h (by decide), fun _ => ⟨yi113, Or.inr yv113⟩⟩
theorem yc114 : Cond.code ⟨"EmptyChairs", "deny", "(I)Z"⟩ prog_1_method_9_code 2 (some .boolean) ∈ lw_tbl := (mt3 _ (List.mem_of_getElem? (i := 145) rfl))
theorem yi114 : Cond.instanceMethod ⟨"EmptyChairs", "deny", "(I)Z"⟩ ∈ lw_tbl := (mt3 _ (List.mem_of_getElem? (i := 144) rfl))
theorem yv114 : Cond.selects "EmptyChairs" ⟨"EmptyChairs", "deny", "(I)Z"⟩ ⟨"EmptyChairs", "deny", "(I)Z"⟩ ∈ lw_tbl := in_sel (q := (⟨"EmptyChairs", "deny", "(I)Z"⟩, 18)) (List.mem_append_left _ (List.mem_of_getElem? (i := 0) rfl))
theorem yok114 : YOk 114 := ⟨yc114, rfl, pn0, ⟨ph0, pv0, pd6⟩, pi0, fun h => absurd h (by decide), fun _ => ⟨yi114, Or.inr yv114⟩⟩
theorem yc115 : Cond.code ⟨"EmptyChairs", "tellFraction", "(JJ)Z"⟩ prog_1_method_10_code 7 (some .boolean) ∈ lw_tbl := (mt6 _ (List.mem_of_getElem? (i := 53) rfl))
theorem yi115 : Cond.instanceMethod ⟨"EmptyChairs", "tellFraction", "(JJ)Z"⟩ ∈ lw_tbl := (mt6 _ (List.mem_of_getElem? (i := 52) rfl))
theorem yv115 : Cond.selects "EmptyChairs" ⟨"EmptyChairs", "tellFraction", "(JJ)Z"⟩ ⟨"EmptyChairs", "tellFraction", "(JJ)Z"⟩ ∈ lw_tbl := in_sel (q := (⟨"EmptyChairs", "tellFraction", "(JJ)Z"⟩, 18)) (List.mem_append_right _ (List.mem_append_right _ (List.mem_append_left _ (List.mem_of_getElem? (i := 10) rfl))))
theorem yok115 : YOk 115 := ⟨yc115, rfl, pn0, ⟨ph0, pv0, pd31⟩, pi0, fun h => absurd h (by decide), fun _ => ⟨yi115, Or.inr yv115⟩⟩
theorem yc116 : Cond.code ⟨"EmptyChairs", "greatestDivisor", "(JJ)J"⟩ prog_1_method_11_code 11 (some .long) ∈ lw_tbl := (mt6 _ (List.mem_of_getElem? (i := 56) rfl))
theorem ys116 : Cond.static ⟨"EmptyChairs", "greatestDivisor", "(JJ)J"⟩ ∈ lw_tbl := (mt6 _ (List.mem_of_getElem? (i := 55) rfl))
theorem yok116 : YOk 116 := ⟨yc116, rfl, pn0, ⟨ph0, pv0, pd30⟩, pi0, fun _ => ys116, fun h => absurd h (by decide)⟩
theorem yc117 : Cond.code ⟨"EmptyChairs", "isBetween", "(III)Z"⟩ prog_1_method_12_code 3 (some .boolean) ∈ lw_tbl := (mt3 _ (List.mem_of_getElem? (i := 141) rfl))
theorem ys117 : Cond.static ⟨"EmptyChairs", "isBetween", "(III)Z"⟩ ∈ lw_tbl := (mt3 _ (List.mem_of_getElem? (i := 140) rfl))
theorem yok117 : YOk 117 := ⟨yc117, rfl, pn0, ⟨ph0, pv0, pd13⟩, pi0, fun _ => ys117, fun h => absurd h (by decide)⟩
theorem yc118 : Cond.code ⟨"EmptyChairs", "isTray", "(I)Z"⟩ prog_1_method_13_code 1 (some .boolean) ∈ lw_tbl := (mt3 _ (List.mem_of_getElem? (i := 138) rfl))
theorem ys118 : Cond.static ⟨"EmptyChairs", "isTray", "(I)Z"⟩ ∈ lw_tbl := (mt3 _ (List.mem_of_getElem? (i := 137) rfl))
theorem yok118 : YOk 118 := ⟨yc118, rfl, pn0, ⟨ph0, pv0, pd6⟩, pi0, fun _ => ys118, fun h => absurd h (by decide)⟩
theorem yc119 : Cond.code ⟨"EmptyChairs", "isParty", "(I)Z"⟩ prog_1_method_14_code 2 (some .boolean) ∈ lw_tbl := (mt5 _ (List.mem_of_getElem? (i := 64) rfl))
theorem yi119 : Cond.instanceMethod ⟨"EmptyChairs", "isParty", "(I)Z"⟩ ∈ lw_tbl := (mt5 _ (List.mem_of_getElem? (i := 63) rfl))
theorem yv119 : Cond.selects "EmptyChairs" ⟨"EmptyChairs", "isParty", "(I)Z"⟩ ⟨"EmptyChairs", "isParty", "(I)Z"⟩ ∈ lw_tbl := in_sel (q := (⟨"EmptyChairs", "isParty", "(I)Z"⟩, 18)) (List.mem_append_right _ (List.mem_append_right _ (List.mem_append_left _ (List.mem_of_getElem? (i := 4) rfl))))
theorem yok119 : YOk 119 := ⟨yc119, rfl, pn0, ⟨ph0, pv0, pd6⟩, pi0, fun h => absurd h (by decide), fun _ => ⟨yi119, Or.inr yv119⟩⟩
theorem yc120 : Cond.code ⟨"EmptyChairs", "isMember", "(I)Z"⟩ prog_1_method_15_code 2 (some .boolean) ∈ lw_tbl := (mt5 _ (List.mem_of_getElem? (i := 36) rfl))
theorem yi120 : Cond.instanceMethod ⟨"EmptyChairs", "isMember", "(I)Z"⟩ ∈ lw_tbl := (mt5 _ (List.mem_of_getElem? (i := 35) rfl))
theorem yv120 : Cond.selects "EmptyChairs" ⟨"EmptyChairs", "isMember", "(I)Z"⟩ ⟨"EmptyChairs", "isMember", "(I)Z"⟩ ∈ lw_tbl := in_sel (q := (⟨"EmptyChairs", "isMember", "(I)Z"⟩, 18)) (List.mem_append_right _ (List.mem_append_right _ (List.mem_append_left _ (List.mem_of_getElem? (i := 1) rfl))))
theorem yok120 : YOk 120 := ⟨yc120, rfl, pn0, ⟨ph0, pv0, pd6⟩, pi0, fun h => absurd h (by decide), fun _ => ⟨yi120, Or.inr yv120⟩⟩
theorem yc121 : Cond.code ⟨"EmptyChairs", "isMotion", "(I)Z"⟩ prog_1_method_16_code 2 (some .boolean) ∈ lw_tbl := (mt5 _ (List.mem_of_getElem? (i := 48) rfl))
theorem yi121 : Cond.instanceMethod ⟨"EmptyChairs", "isMotion", "(I)Z"⟩ ∈ lw_tbl := (mt5 _ (List.mem_of_getElem? (i := 47) rfl))
theorem yv121 : Cond.selects "EmptyChairs" ⟨"EmptyChairs", "isMotion", "(I)Z"⟩ ⟨"EmptyChairs", "isMotion", "(I)Z"⟩ ∈ lw_tbl := in_sel (q := (⟨"EmptyChairs", "isMotion", "(I)Z"⟩, 18)) (List.mem_append_right _ (List.mem_append_right _ (List.mem_append_left _ (List.mem_of_getElem? (i := 3) rfl))))
theorem yok121 : YOk 121 := ⟨yc121, rfl, pn0, ⟨ph0, pv0, pd6⟩, pi0, fun h => absurd h (by decide), fun _ => ⟨yi121, Or.inr yv121⟩⟩
theorem yc122 : Cond.code ⟨"EmptyChairs", "isSetOf", "(II)Z"⟩ prog_1_method_17_code 2 (some .boolean) ∈ lw_tbl := (mt5 _ (List.mem_of_getElem? (i := 71) rfl))
theorem ys122 : Cond.static ⟨"EmptyChairs", "isSetOf", "(II)Z"⟩ ∈ lw_tbl := (mt5 _ (List.mem_of_getElem? (i := 70) rfl))
theorem yok122 : YOk 122 := ⟨yc122, rfl, pn0, ⟨ph0, pv0, pd10⟩, pi0, fun _ => ys122, fun h => absurd h (by decide)⟩
theorem yc123 : Cond.code ⟨"EmptyChairs", "weighNow", "()V"⟩ prog_1_method_18_code 1 (none) ∈ lw_tbl := (mt4 _ (List.mem_of_getElem? (i := 206) rfl))
theorem yi123 : Cond.instanceMethod ⟨"EmptyChairs", "weighNow", "()V"⟩ ∈ lw_tbl := (mt4 _ (List.mem_of_getElem? (i := 205) rfl))
theorem yv123 : Cond.selects "EmptyChairs" ⟨"EmptyChairs", "weighNow", "()V"⟩ ⟨"EmptyChairs", "weighNow", "()V"⟩ ∈ lw_tbl := in_sel (q := (⟨"EmptyChairs", "weighNow", "()V"⟩, 18)) (List.mem_append_right _ (List.mem_append_left _ (List.mem_of_getElem? (i := 14) rfl)))
theorem yok123 : YOk 123 := ⟨yc123, rfl, pn0, ⟨ph0, pv0, pd2⟩, pi0, fun h => absurd h (by decide), fun _ => ⟨yi123, Or.inr yv123⟩⟩
theorem yc124 : Cond.code ⟨"EmptyChairs", "weighIn", "(I)V"⟩ prog_1_method_19_code 2 (none) ∈ lw_tbl := (mt4 _ (List.mem_of_getElem? (i := 210) rfl))
theorem yi124 : Cond.instanceMethod ⟨"EmptyChairs", "weighIn", "(I)V"⟩ ∈ lw_tbl := (mt4 _ (List.mem_of_getElem? (i := 209) rfl))
theorem yv124 : Cond.selects "EmptyChairs" ⟨"EmptyChairs", "weighIn", "(I)V"⟩ ⟨"EmptyChairs", "weighIn", "(I)V"⟩ ∈ lw_tbl := in_sel (q := (⟨"EmptyChairs", "weighIn", "(I)V"⟩, 18)) (List.mem_append_right _ (List.mem_append_left _ (List.mem_of_getElem? (i := 15) rfl)))
theorem yok124 : YOk 124 := ⟨yc124, rfl, pn0, ⟨ph0, pv0, pd5⟩, pi0, fun h => absurd h (by decide), fun _ => ⟨yi124, Or.inr yv124⟩⟩
theorem yc125 : Cond.code ⟨"EmptyChairs", "trayTrouble", "(II)I"⟩ prog_1_method_20_code 3 (some .int) ∈ lw_tbl := (mt3 _ (List.mem_of_getElem? (i := 168) rfl))
theorem yi125 : Cond.instanceMethod ⟨"EmptyChairs", "trayTrouble", "(II)I"⟩ ∈ lw_tbl := (mt3 _ (List.mem_of_getElem? (i := 167) rfl))
theorem yv125 : Cond.selects "EmptyChairs" ⟨"EmptyChairs", "trayTrouble", "(II)I"⟩ ⟨"EmptyChairs", "trayTrouble", "(II)I"⟩ ∈ lw_tbl := in_sel (q := (⟨"EmptyChairs", "trayTrouble", "(II)I"⟩, 18)) (List.mem_append_left _ (List.mem_of_getElem? (i := 3) rfl))
theorem yok125 : YOk 125 := ⟨yc125, rfl, pn0, ⟨ph0, pv0, pd7⟩, pi0, fun h => absurd h (by decide), fun _ => ⟨yi125, Or.inr yv125⟩⟩
theorem yc126 : Cond.code ⟨"EmptyChairs", "placeTrouble", "(II)I"⟩ prog_1_method_21_code 4 (some .int) ∈ lw_tbl := (mt3 _ (List.mem_of_getElem? (i := 164) rfl))
theorem yi126 : Cond.instanceMethod ⟨"EmptyChairs", "placeTrouble", "(II)I"⟩ ∈ lw_tbl := (mt3 _ (List.mem_of_getElem? (i := 163) rfl))
theorem yv126 : Cond.selects "EmptyChairs" ⟨"EmptyChairs", "placeTrouble", "(II)I"⟩ ⟨"EmptyChairs", "placeTrouble", "(II)I"⟩ ∈ lw_tbl := in_sel (q := (⟨"EmptyChairs", "placeTrouble", "(II)I"⟩, 18)) (List.mem_append_left _ (List.mem_of_getElem? (i := 2) rfl))
theorem yok126 : YOk 126 := ⟨yc126, rfl, pn0, ⟨ph0, pv0, pd7⟩, pi0, fun h => absurd h (by decide), fun _ => ⟨yi126, Or.inr yv126⟩⟩
theorem yc127 : Cond.code ⟨"EmptyChairs", "tray", "(III)Z"⟩ prog_1_method_22_code 4 (some .boolean) ∈ lw_tbl := (mt3 _ (List.mem_of_getElem? (i := 135) rfl))
theorem yi127 : Cond.instanceMethod ⟨"EmptyChairs", "tray", "(III)Z"⟩ ∈ lw_tbl := (mt3 _ (List.mem_of_getElem? (i := 133) rfl))
theorem yv127 : Cond.selects "EmptyChairs" ⟨"EmptyChairs", "tray", "(III)Z"⟩ ⟨"EmptyChairs", "tray", "(III)Z"⟩ ∈ lw_tbl := (mt3 _ (List.mem_of_getElem? (i := 134) rfl))
theorem yok127 : YOk 127 := ⟨yc127, rfl, pn0, ⟨ph0, pv0, pd13⟩, pi0, fun h => absurd h (by decide), fun _ => ⟨yi127, Or.inr yv127⟩⟩
theorem yc128 : Cond.code ⟨"EmptyChairs", "write", "(IIJ)Z"⟩ prog_1_method_23_code 6 (some .boolean) ∈ lw_tbl := (mt3 _ (List.mem_of_getElem? (i := 160) rfl))
theorem yi128 : Cond.instanceMethod ⟨"EmptyChairs", "write", "(IIJ)Z"⟩ ∈ lw_tbl := (mt3 _ (List.mem_of_getElem? (i := 158) rfl))
theorem yv128 : Cond.selects "EmptyChairs" ⟨"EmptyChairs", "write", "(IIJ)Z"⟩ ⟨"EmptyChairs", "write", "(IIJ)Z"⟩ ∈ lw_tbl := (mt3 _ (List.mem_of_getElem? (i := 159) rfl))
theorem yok128 : YOk 128 := ⟨yc128, rfl, pn0, ⟨ph0, pv0, pd19⟩, pi0, fun h => absurd h (by decide), fun _ => ⟨yi128, Or.inr yv128⟩⟩
theorem yc129 : Cond.code ⟨"EmptyChairs", "read", "(II)J"⟩ prog_1_method_24_code 4 (some .long) ∈ lw_tbl := (mt3 _ (List.mem_of_getElem? (i := 184) rfl))
theorem yi129 : Cond.instanceMethod ⟨"EmptyChairs", "read", "(II)J"⟩ ∈ lw_tbl := (mt3 _ (List.mem_of_getElem? (i := 182) rfl))
theorem yv129 : Cond.selects "EmptyChairs" ⟨"EmptyChairs", "read", "(II)J"⟩ ⟨"EmptyChairs", "read", "(II)J"⟩ ∈ lw_tbl := (mt3 _ (List.mem_of_getElem? (i := 183) rfl))
theorem yok129 : YOk 129 := ⟨yc129, rfl, pn0, ⟨ph0, pv0, pd8⟩, pi0, fun h => absurd h (by decide), fun _ => ⟨yi129, Or.inr yv129⟩⟩
theorem yc130 : Cond.code ⟨"EmptyChairs", "pour", "(IIIII)Z"⟩ prog_1_method_25_code 8 (some .boolean) ∈ lw_tbl := (mt3 _ (List.mem_of_getElem? (i := 192) rfl))
theorem yi130 : Cond.instanceMethod ⟨"EmptyChairs", "pour", "(IIIII)Z"⟩ ∈ lw_tbl := (mt3 _ (List.mem_of_getElem? (i := 190) rfl))
theorem yv130 : Cond.selects "EmptyChairs" ⟨"EmptyChairs", "pour", "(IIIII)Z"⟩ ⟨"EmptyChairs", "pour", "(IIIII)Z"⟩ ∈ lw_tbl := (mt3 _ (List.mem_of_getElem? (i := 191) rfl))
theorem yok130 : YOk 130 := ⟨yc130, rfl, pn0, ⟨ph0, pv0, pd17⟩, pi0, fun h => absurd h (by decide), fun _ => ⟨yi130, Or.inr yv130⟩⟩
theorem yc131 : Cond.code ⟨"EmptyChairs", "feed", "(IIIII)I"⟩ prog_1_method_26_code 6 (some .int) ∈ lw_tbl := (mt3 _ (List.mem_of_getElem? (i := 201) rfl))
theorem yi131 : Cond.instanceMethod ⟨"EmptyChairs", "feed", "(IIIII)I"⟩ ∈ lw_tbl := (mt3 _ (List.mem_of_getElem? (i := 199) rfl))
theorem yv131 : Cond.selects "EmptyChairs" ⟨"EmptyChairs", "feed", "(IIIII)I"⟩ ⟨"EmptyChairs", "feed", "(IIIII)I"⟩ ∈ lw_tbl := (mt3 _ (List.mem_of_getElem? (i := 200) rfl))
theorem yok131 : YOk 131 := ⟨yc131, rfl, pn0, ⟨ph0, pv0, pd16⟩, pi0, fun h => absurd h (by decide), fun _ => ⟨yi131, Or.inr yv131⟩⟩
theorem yc132 : Cond.code ⟨"EmptyChairs", "assembly", "(I)I"⟩ prog_1_method_27_code 3 (some .int) ∈ lw_tbl := (mt3 _ (List.mem_of_getElem? (i := 213) rfl))
theorem yi132 : Cond.instanceMethod ⟨"EmptyChairs", "assembly", "(I)I"⟩ ∈ lw_tbl := (mt3 _ (List.mem_of_getElem? (i := 211) rfl))
theorem yv132 : Cond.selects "EmptyChairs" ⟨"EmptyChairs", "assembly", "(I)I"⟩ ⟨"EmptyChairs", "assembly", "(I)I"⟩ ∈ lw_tbl := (mt3 _ (List.mem_of_getElem? (i := 212) rfl))
theorem yok132 : YOk 132 := ⟨yc132, rfl, pn0, ⟨ph0, pv0, pd4⟩, pi0, fun h => absurd h (by decide), fun _ => ⟨yi132, Or.inr yv132⟩⟩
theorem yc133 : Cond.code ⟨"EmptyChairs", "sessions", "(I)I"⟩ prog_1_method_28_code 3 (some .int) ∈ lw_tbl := (mt4 _ (List.mem_of_getElem? (i := 140) rfl))
theorem yi133 : Cond.instanceMethod ⟨"EmptyChairs", "sessions", "(I)I"⟩ ∈ lw_tbl := (mt4 _ (List.mem_of_getElem? (i := 138) rfl))
theorem yv133 : Cond.selects "EmptyChairs" ⟨"EmptyChairs", "sessions", "(I)I"⟩ ⟨"EmptyChairs", "sessions", "(I)I"⟩ ∈ lw_tbl := (mt4 _ (List.mem_of_getElem? (i := 139) rfl))
theorem yok133 : YOk 133 := ⟨yc133, rfl, pn0, ⟨ph0, pv0, pd4⟩, pi0, fun h => absurd h (by decide), fun _ => ⟨yi133, Or.inr yv133⟩⟩
theorem yc134 : Cond.code ⟨"EmptyChairs", "fault", "(I)I"⟩ prog_1_method_29_code 2 (some .int) ∈ lw_tbl := (mt4 _ (List.mem_of_getElem? (i := 190) rfl))
theorem yi134 : Cond.instanceMethod ⟨"EmptyChairs", "fault", "(I)I"⟩ ∈ lw_tbl := (mt4 _ (List.mem_of_getElem? (i := 188) rfl))
theorem yv134 : Cond.selects "EmptyChairs" ⟨"EmptyChairs", "fault", "(I)I"⟩ ⟨"EmptyChairs", "fault", "(I)I"⟩ ∈ lw_tbl := (mt4 _ (List.mem_of_getElem? (i := 189) rfl))
theorem yok134 : YOk 134 := ⟨yc134, rfl, pn0, ⟨ph0, pv0, pd4⟩, pi0, fun h => absurd h (by decide), fun _ => ⟨yi134, Or.inr yv134⟩⟩
theorem yc135 : Cond.code ⟨"EmptyChairs", "many", "(I)I"⟩ prog_1_method_30_code 2 (some .int) ∈ lw_tbl := (mt4 _ (List.mem_of_getElem? (i := 194) rfl))
theorem yi135 : Cond.instanceMethod ⟨"EmptyChairs", "many", "(I)I"⟩ ∈ lw_tbl := (mt4 _ (List.mem_of_getElem? (i := 192) rfl))
theorem yv135 : Cond.selects "EmptyChairs" ⟨"EmptyChairs", "many", "(I)I"⟩ ⟨"EmptyChairs", "many", "(I)I"⟩ ∈ lw_tbl := (mt4 _ (List.mem_of_getElem? (i := 193) rfl))
theorem yok135 : YOk 135 := ⟨yc135, rfl, pn0, ⟨ph0, pv0, pd4⟩, pi0, fun h => absurd h (by decide), fun _ => ⟨yi135, Or.inr yv135⟩⟩
theorem yc136 : Cond.code ⟨"EmptyChairs", "plainMany", "(I)I"⟩ prog_1_method_31_code 2 (some .int) ∈ lw_tbl := (mt4 _ (List.mem_of_getElem? (i := 198) rfl))
theorem yi136 : Cond.instanceMethod ⟨"EmptyChairs", "plainMany", "(I)I"⟩ ∈ lw_tbl := (mt4 _ (List.mem_of_getElem? (i := 197) rfl))
theorem yv136 : Cond.selects "EmptyChairs" ⟨"EmptyChairs", "plainMany", "(I)I"⟩ ⟨"EmptyChairs", "plainMany", "(I)I"⟩ ∈ lw_tbl := in_sel (q := (⟨"EmptyChairs", "plainMany", "(I)I"⟩, 18)) (List.mem_append_right _ (List.mem_append_left _ (List.mem_of_getElem? (i := 12) rfl)))
theorem yok136 : YOk 136 := ⟨yc136, rfl, pn0, ⟨ph0, pv0, pd4⟩, pi0, fun h => absurd h (by decide), fun _ => ⟨yi136, Or.inr yv136⟩⟩
theorem yc137 : Cond.code ⟨"EmptyChairs", "weighedMany", "(I)I"⟩ prog_1_method_32_code 2 (some .int) ∈ lw_tbl := (mt4 _ (List.mem_of_getElem? (i := 202) rfl))
theorem yi137 : Cond.instanceMethod ⟨"EmptyChairs", "weighedMany", "(I)I"⟩ ∈ lw_tbl := (mt4 _ (List.mem_of_getElem? (i := 201) rfl))
theorem yv137 : Cond.selects "EmptyChairs" ⟨"EmptyChairs", "weighedMany", "(I)I"⟩ ⟨"EmptyChairs", "weighedMany", "(I)I"⟩ ∈ lw_tbl := in_sel (q := (⟨"EmptyChairs", "weighedMany", "(I)I"⟩, 18)) (List.mem_append_right _ (List.mem_append_left _ (List.mem_of_getElem? (i := 13) rfl)))
theorem yok137 : YOk 137 := ⟨yc137, rfl, pn0, ⟨ph0, pv0, pd4⟩, pi0, fun h => absurd h (by decide), fun _ => ⟨yi137, Or.inr yv137⟩⟩
theorem yc138 : Cond.code ⟨"EmptyChairs", "member", "(II)I"⟩ prog_1_method_33_code 4 (some .int) ∈ lw_tbl := (mt5 _ (List.mem_of_getElem? (i := 32) rfl))
theorem yi138 : Cond.instanceMethod ⟨"EmptyChairs", "member", "(II)I"⟩ ∈ lw_tbl := (mt5 _ (List.mem_of_getElem? (i := 30) rfl))
theorem yv138 : Cond.selects "EmptyChairs" ⟨"EmptyChairs", "member", "(II)I"⟩ ⟨"EmptyChairs", "member", "(II)I"⟩ ∈ lw_tbl := (mt5 _ (List.mem_of_getElem? (i := 31) rfl))
theorem yok138 : YOk 138 := ⟨yc138, rfl, pn0, ⟨ph0, pv0, pd7⟩, pi0, fun h => absurd h (by decide), fun _ => ⟨yi138, Or.inr yv138⟩⟩
theorem yc139 : Cond.code ⟨"EmptyChairs", "motion", "(II)I"⟩ prog_1_method_34_code 3 (some .int) ∈ lw_tbl := (mt5 _ (List.mem_of_getElem? (i := 44) rfl))
theorem yi139 : Cond.instanceMethod ⟨"EmptyChairs", "motion", "(II)I"⟩ ∈ lw_tbl := (mt5 _ (List.mem_of_getElem? (i := 42) rfl))
theorem yv139 : Cond.selects "EmptyChairs" ⟨"EmptyChairs", "motion", "(II)I"⟩ ⟨"EmptyChairs", "motion", "(II)I"⟩ ∈ lw_tbl := (mt5 _ (List.mem_of_getElem? (i := 43) rfl))
theorem yok139 : YOk 139 := ⟨yc139, rfl, pn0, ⟨ph0, pv0, pd7⟩, pi0, fun h => absurd h (by decide), fun _ => ⟨yi139, Or.inr yv139⟩⟩
theorem yc140 : Cond.code ⟨"EmptyChairs", "room", "(II)I"⟩ prog_1_method_35_code 3 (some .int) ∈ lw_tbl := (mt5 _ (List.mem_of_getElem? (i := 52) rfl))
theorem yi140 : Cond.instanceMethod ⟨"EmptyChairs", "room", "(II)I"⟩ ∈ lw_tbl := (mt5 _ (List.mem_of_getElem? (i := 50) rfl))
theorem yv140 : Cond.selects "EmptyChairs" ⟨"EmptyChairs", "room", "(II)I"⟩ ⟨"EmptyChairs", "room", "(II)I"⟩ ∈ lw_tbl := (mt5 _ (List.mem_of_getElem? (i := 51) rfl))
theorem yok140 : YOk 140 := ⟨yc140, rfl, pn0, ⟨ph0, pv0, pd7⟩, pi0, fun h => absurd h (by decide), fun _ => ⟨yi140, Or.inr yv140⟩⟩
theorem yc141 : Cond.code ⟨"EmptyChairs", "counts", "(I)I"⟩ prog_1_method_36_code 2 (some .int) ∈ lw_tbl := (mt5 _ (List.mem_of_getElem? (i := 56) rfl))
theorem yi141 : Cond.instanceMethod ⟨"EmptyChairs", "counts", "(I)I"⟩ ∈ lw_tbl := (mt5 _ (List.mem_of_getElem? (i := 54) rfl))
theorem yv141 : Cond.selects "EmptyChairs" ⟨"EmptyChairs", "counts", "(I)I"⟩ ⟨"EmptyChairs", "counts", "(I)I"⟩ ∈ lw_tbl := (mt5 _ (List.mem_of_getElem? (i := 55) rfl))
theorem yok141 : YOk 141 := ⟨yc141, rfl, pn0, ⟨ph0, pv0, pd4⟩, pi0, fun h => absurd h (by decide), fun _ => ⟨yi141, Or.inr yv141⟩⟩
theorem yc142 : Cond.code ⟨"EmptyChairs", "power", "(I)I"⟩ prog_1_method_37_code 2 (some .int) ∈ lw_tbl := (mt5 _ (List.mem_of_getElem? (i := 60) rfl))
theorem yi142 : Cond.instanceMethod ⟨"EmptyChairs", "power", "(I)I"⟩ ∈ lw_tbl := (mt5 _ (List.mem_of_getElem? (i := 58) rfl))
theorem yv142 : Cond.selects "EmptyChairs" ⟨"EmptyChairs", "power", "(I)I"⟩ ⟨"EmptyChairs", "power", "(I)I"⟩ ∈ lw_tbl := (mt5 _ (List.mem_of_getElem? (i := 59) rfl))
theorem yok142 : YOk 142 := ⟨yc142, rfl, pn0, ⟨ph0, pv0, pd4⟩, pi0, fun h => absurd h (by decide), fun _ => ⟨yi142, Or.inr yv142⟩⟩
theorem yc143 : Cond.code ⟨"EmptyChairs", "powerOf", "(I)I"⟩ prog_1_method_38_code 2 (some .int) ∈ lw_tbl := (mt5 _ (List.mem_of_getElem? (i := 68) rfl))
theorem yi143 : Cond.instanceMethod ⟨"EmptyChairs", "powerOf", "(I)I"⟩ ∈ lw_tbl := (mt5 _ (List.mem_of_getElem? (i := 66) rfl))
theorem yv143 : Cond.selects "EmptyChairs" ⟨"EmptyChairs", "powerOf", "(I)I"⟩ ⟨"EmptyChairs", "powerOf", "(I)I"⟩ ∈ lw_tbl := (mt5 _ (List.mem_of_getElem? (i := 67) rfl))
theorem yok143 : YOk 143 := ⟨yc143, rfl, pn0, ⟨ph0, pv0, pd4⟩, pi0, fun h => absurd h (by decide), fun _ => ⟨yi143, Or.inr yv143⟩⟩
theorem yc144 : Cond.code ⟨"EmptyChairs", "governs", "()I"⟩ prog_1_method_39_code 1 (some .int) ∈ lw_tbl := (mt5 _ (List.mem_of_getElem? (i := 76) rfl))
theorem yi144 : Cond.instanceMethod ⟨"EmptyChairs", "governs", "()I"⟩ ∈ lw_tbl := (mt5 _ (List.mem_of_getElem? (i := 74) rfl))
theorem yv144 : Cond.selects "EmptyChairs" ⟨"EmptyChairs", "governs", "()I"⟩ ⟨"EmptyChairs", "governs", "()I"⟩ ∈ lw_tbl := (mt5 _ (List.mem_of_getElem? (i := 75) rfl))
theorem yok144 : YOk 144 := ⟨yc144, rfl, pn0, ⟨ph0, pv0, pd0⟩, pi0, fun h => absurd h (by decide), fun _ => ⟨yi144, Or.inr yv144⟩⟩
theorem yc145 : Cond.code ⟨"EmptyChairs", "bells", "(I)I"⟩ prog_1_method_40_code 2 (some .int) ∈ lw_tbl := (mt5 _ (List.mem_of_getElem? (i := 84) rfl))
theorem yi145 : Cond.instanceMethod ⟨"EmptyChairs", "bells", "(I)I"⟩ ∈ lw_tbl := (mt5 _ (List.mem_of_getElem? (i := 82) rfl))
theorem yv145 : Cond.selects "EmptyChairs" ⟨"EmptyChairs", "bells", "(I)I"⟩ ⟨"EmptyChairs", "bells", "(I)I"⟩ ∈ lw_tbl := (mt5 _ (List.mem_of_getElem? (i := 83) rfl))
theorem yok145 : YOk 145 := ⟨yc145, rfl, pn0, ⟨ph0, pv0, pd4⟩, pi0, fun h => absurd h (by decide), fun _ => ⟨yi145, Or.inr yv145⟩⟩
theorem yc146 : Cond.code ⟨"EmptyChairs", "margin", "(I)I"⟩ prog_1_method_41_code 2 (some .int) ∈ lw_tbl := (mt5 _ (List.mem_of_getElem? (i := 88) rfl))
theorem yi146 : Cond.instanceMethod ⟨"EmptyChairs", "margin", "(I)I"⟩ ∈ lw_tbl := (mt5 _ (List.mem_of_getElem? (i := 86) rfl))
theorem yv146 : Cond.selects "EmptyChairs" ⟨"EmptyChairs", "margin", "(I)I"⟩ ⟨"EmptyChairs", "margin", "(I)I"⟩ ∈ lw_tbl := (mt5 _ (List.mem_of_getElem? (i := 87) rfl))
theorem yok146 : YOk 146 := ⟨yc146, rfl, pn0, ⟨ph0, pv0, pd4⟩, pi0, fun h => absurd h (by decide), fun _ => ⟨yi146, Or.inr yv146⟩⟩
theorem yc147 : Cond.code ⟨"EmptyChairs", "copyCounts", "(I)I"⟩ prog_1_method_42_code 4 (some .int) ∈ lw_tbl := (mt5 _ (List.mem_of_getElem? (i := 93) rfl))
theorem yi147 : Cond.instanceMethod ⟨"EmptyChairs", "copyCounts", "(I)I"⟩ ∈ lw_tbl := (mt5 _ (List.mem_of_getElem? (i := 91) rfl))
theorem yv147 : Cond.selects "EmptyChairs" ⟨"EmptyChairs", "copyCounts", "(I)I"⟩ ⟨"EmptyChairs", "copyCounts", "(I)I"⟩ ∈ lw_tbl := (mt5 _ (List.mem_of_getElem? (i := 92) rfl))
theorem yok147 : YOk 147 := ⟨yc147, rfl, pn0, ⟨ph0, pv0, pd4⟩, pi0, fun h => absurd h (by decide), fun _ => ⟨yi147, Or.inr yv147⟩⟩
theorem yc148 : Cond.code ⟨"EmptyChairs", "minute", "(I)I"⟩ prog_1_method_43_code 2 (some .int) ∈ lw_tbl := (mt5 _ (List.mem_of_getElem? (i := 97) rfl))
theorem yi148 : Cond.instanceMethod ⟨"EmptyChairs", "minute", "(I)I"⟩ ∈ lw_tbl := (mt5 _ (List.mem_of_getElem? (i := 95) rfl))
theorem yv148 : Cond.selects "EmptyChairs" ⟨"EmptyChairs", "minute", "(I)I"⟩ ⟨"EmptyChairs", "minute", "(I)I"⟩ ∈ lw_tbl := (mt5 _ (List.mem_of_getElem? (i := 96) rfl))
theorem yok148 : YOk 148 := ⟨yc148, rfl, pn0, ⟨ph0, pv0, pd4⟩, pi0, fun h => absurd h (by decide), fun _ => ⟨yi148, Or.inr yv148⟩⟩
theorem yc149 : Cond.code ⟨"EmptyChairs", "walk", "(II)Z"⟩ prog_1_method_44_code 4 (some .boolean) ∈ lw_tbl := (mt5 _ (List.mem_of_getElem? (i := 124) rfl))
theorem yi149 : Cond.instanceMethod ⟨"EmptyChairs", "walk", "(II)Z"⟩ ∈ lw_tbl := (mt5 _ (List.mem_of_getElem? (i := 122) rfl))
theorem yv149 : Cond.selects "EmptyChairs" ⟨"EmptyChairs", "walk", "(II)Z"⟩ ⟨"EmptyChairs", "walk", "(II)Z"⟩ ∈ lw_tbl := (mt5 _ (List.mem_of_getElem? (i := 123) rfl))
theorem yok149 : YOk 149 := ⟨yc149, rfl, pn0, ⟨ph0, pv0, pd10⟩, pi0, fun h => absurd h (by decide), fun _ => ⟨yi149, Or.inr yv149⟩⟩
theorem yc150 : Cond.code ⟨"EmptyChairs", "die", "(I)I"⟩ prog_1_method_45_code 3 (some .int) ∈ lw_tbl := (mt5 _ (List.mem_of_getElem? (i := 129) rfl))
theorem yi150 : Cond.instanceMethod ⟨"EmptyChairs", "die", "(I)I"⟩ ∈ lw_tbl := (mt5 _ (List.mem_of_getElem? (i := 127) rfl))
theorem yv150 : Cond.selects "EmptyChairs" ⟨"EmptyChairs", "die", "(I)I"⟩ ⟨"EmptyChairs", "die", "(I)I"⟩ ∈ lw_tbl := (mt5 _ (List.mem_of_getElem? (i := 128) rfl))
theorem yok150 : YOk 150 := ⟨yc150, rfl, pn0, ⟨ph0, pv0, pd4⟩, pi0, fun h => absurd h (by decide), fun _ => ⟨yi150, Or.inr yv150⟩⟩
theorem yc151 : Cond.code ⟨"EmptyChairs", "fall", "(IZ)Z"⟩ prog_1_method_46_code 4 (some .boolean) ∈ lw_tbl := (mt5 _ (List.mem_of_getElem? (i := 143) rfl))
theorem yi151 : Cond.instanceMethod ⟨"EmptyChairs", "fall", "(IZ)Z"⟩ ∈ lw_tbl := (mt5 _ (List.mem_of_getElem? (i := 141) rfl))
theorem yv151 : Cond.selects "EmptyChairs" ⟨"EmptyChairs", "fall", "(IZ)Z"⟩ ⟨"EmptyChairs", "fall", "(IZ)Z"⟩ ∈ lw_tbl := (mt5 _ (List.mem_of_getElem? (i := 142) rfl))
theorem yok151 : YOk 151 := ⟨yc151, rfl, pn0, ⟨ph0, pv0, pd26⟩, pi0, fun h => absurd h (by decide), fun _ => ⟨yi151, Or.inr yv151⟩⟩
theorem yc152 : Cond.code ⟨"EmptyChairs", "hide", "(IZ)Z"⟩ prog_1_method_47_code 4 (some .boolean) ∈ lw_tbl := (mt5 _ (List.mem_of_getElem? (i := 147) rfl))
theorem yi152 : Cond.instanceMethod ⟨"EmptyChairs", "hide", "(IZ)Z"⟩ ∈ lw_tbl := (mt5 _ (List.mem_of_getElem? (i := 145) rfl))
theorem yv152 : Cond.selects "EmptyChairs" ⟨"EmptyChairs", "hide", "(IZ)Z"⟩ ⟨"EmptyChairs", "hide", "(IZ)Z"⟩ ∈ lw_tbl := (mt5 _ (List.mem_of_getElem? (i := 146) rfl))
theorem yok152 : YOk 152 := ⟨yc152, rfl, pn0, ⟨ph0, pv0, pd26⟩, pi0, fun h => absurd h (by decide), fun _ => ⟨yi152, Or.inr yv152⟩⟩
theorem yc153 : Cond.code ⟨"EmptyChairs", "carry", "(II)I"⟩ prog_1_method_48_code 5 (some .int) ∈ lw_tbl := (mt5 _ (List.mem_of_getElem? (i := 151) rfl))
theorem yi153 : Cond.instanceMethod ⟨"EmptyChairs", "carry", "(II)I"⟩ ∈ lw_tbl := (mt5 _ (List.mem_of_getElem? (i := 149) rfl))
theorem yv153 : Cond.selects "EmptyChairs" ⟨"EmptyChairs", "carry", "(II)I"⟩ ⟨"EmptyChairs", "carry", "(II)I"⟩ ∈ lw_tbl := (mt5 _ (List.mem_of_getElem? (i := 150) rfl))
theorem yok153 : YOk 153 := ⟨yc153, rfl, pn0, ⟨ph0, pv0, pd7⟩, pi0, fun h => absurd h (by decide), fun _ => ⟨yi153, Or.inr yv153⟩⟩
theorem yc154 : Cond.code ⟨"EmptyChairs", "year", "()I"⟩ prog_1_method_49_code 4 (some .int) ∈ lw_tbl := (mt5 _ (List.mem_of_getElem? (i := 155) rfl))
theorem yi154 : Cond.instanceMethod ⟨"EmptyChairs", "year", "()I"⟩ ∈ lw_tbl := (mt5 _ (List.mem_of_getElem? (i := 153) rfl))
theorem yv154 : Cond.selects "EmptyChairs" ⟨"EmptyChairs", "year", "()I"⟩ ⟨"EmptyChairs", "year", "()I"⟩ ∈ lw_tbl := (mt5 _ (List.mem_of_getElem? (i := 154) rfl))
theorem yok154 : YOk 154 := ⟨yc154, rfl, pn0, ⟨ph0, pv0, pd0⟩, pi0, fun h => absurd h (by decide), fun _ => ⟨yi154, Or.inr yv154⟩⟩
theorem yc155 : Cond.code ⟨"EmptyChairs", "rule", "(II)Z"⟩ prog_1_method_50_code 3 (some .boolean) ∈ lw_tbl := (mt5 _ (List.mem_of_getElem? (i := 159) rfl))
theorem yi155 : Cond.instanceMethod ⟨"EmptyChairs", "rule", "(II)Z"⟩ ∈ lw_tbl := (mt5 _ (List.mem_of_getElem? (i := 157) rfl))
theorem yv155 : Cond.selects "EmptyChairs" ⟨"EmptyChairs", "rule", "(II)Z"⟩ ⟨"EmptyChairs", "rule", "(II)Z"⟩ ∈ lw_tbl := (mt5 _ (List.mem_of_getElem? (i := 158) rfl))
theorem yok155 : YOk 155 := ⟨yc155, rfl, pn0, ⟨ph0, pv0, pd10⟩, pi0, fun h => absurd h (by decide), fun _ => ⟨yi155, Or.inr yv155⟩⟩
theorem yc156 : Cond.code ⟨"EmptyChairs", "join", "(II)I"⟩ prog_1_method_51_code 5 (some .int) ∈ lw_tbl := (mt5 _ (List.mem_of_getElem? (i := 165) rfl))
theorem yi156 : Cond.instanceMethod ⟨"EmptyChairs", "join", "(II)I"⟩ ∈ lw_tbl := (mt5 _ (List.mem_of_getElem? (i := 163) rfl))
theorem yv156 : Cond.selects "EmptyChairs" ⟨"EmptyChairs", "join", "(II)I"⟩ ⟨"EmptyChairs", "join", "(II)I"⟩ ∈ lw_tbl := (mt5 _ (List.mem_of_getElem? (i := 164) rfl))
theorem yok156 : YOk 156 := ⟨yc156, rfl, pn0, ⟨ph0, pv0, pd7⟩, pi0, fun h => absurd h (by decide), fun _ => ⟨yi156, Or.inr yv156⟩⟩
theorem yc157 : Cond.code ⟨"EmptyChairs", "side", "(III)Z"⟩ prog_1_method_52_code 5 (some .boolean) ∈ lw_tbl := (mt5 _ (List.mem_of_getElem? (i := 169) rfl))
theorem yi157 : Cond.instanceMethod ⟨"EmptyChairs", "side", "(III)Z"⟩ ∈ lw_tbl := (mt5 _ (List.mem_of_getElem? (i := 167) rfl))
theorem yv157 : Cond.selects "EmptyChairs" ⟨"EmptyChairs", "side", "(III)Z"⟩ ⟨"EmptyChairs", "side", "(III)Z"⟩ ∈ lw_tbl := (mt5 _ (List.mem_of_getElem? (i := 168) rfl))
theorem yok157 : YOk 157 := ⟨yc157, rfl, pn0, ⟨ph0, pv0, pd13⟩, pi0, fun h => absurd h (by decide), fun _ => ⟨yi157, Or.inr yv157⟩⟩
theorem yc158 : Cond.code ⟨"EmptyChairs", "yardsIn", "(II)I"⟩ prog_1_method_53_code 3 (some .int) ∈ lw_tbl := (mt5 _ (List.mem_of_getElem? (i := 173) rfl))
theorem yi158 : Cond.instanceMethod ⟨"EmptyChairs", "yardsIn", "(II)I"⟩ ∈ lw_tbl := (mt5 _ (List.mem_of_getElem? (i := 171) rfl))
theorem yv158 : Cond.selects "EmptyChairs" ⟨"EmptyChairs", "yardsIn", "(II)I"⟩ ⟨"EmptyChairs", "yardsIn", "(II)I"⟩ ∈ lw_tbl := (mt5 _ (List.mem_of_getElem? (i := 172) rfl))
theorem yok158 : YOk 158 := ⟨yc158, rfl, pn0, ⟨ph0, pv0, pd7⟩, pi0, fun h => absurd h (by decide), fun _ => ⟨yi158, Or.inr yv158⟩⟩
theorem yc159 : Cond.code ⟨"EmptyChairs", "governsIn", "(I)I"⟩ prog_1_method_54_code 2 (some .int) ∈ lw_tbl := (mt5 _ (List.mem_of_getElem? (i := 178) rfl))
theorem yi159 : Cond.instanceMethod ⟨"EmptyChairs", "governsIn", "(I)I"⟩ ∈ lw_tbl := (mt5 _ (List.mem_of_getElem? (i := 176) rfl))
theorem yv159 : Cond.selects "EmptyChairs" ⟨"EmptyChairs", "governsIn", "(I)I"⟩ ⟨"EmptyChairs", "governsIn", "(I)I"⟩ ∈ lw_tbl := (mt5 _ (List.mem_of_getElem? (i := 177) rfl))
theorem yok159 : YOk 159 := ⟨yc159, rfl, pn0, ⟨ph0, pv0, pd4⟩, pi0, fun h => absurd h (by decide), fun _ => ⟨yi159, Or.inr yv159⟩⟩
theorem yc160 : Cond.code ⟨"EmptyChairs", "firstIn", "(I)I"⟩ prog_1_method_55_code 3 (some .int) ∈ lw_tbl := (mt5 _ (List.mem_of_getElem? (i := 182) rfl))
theorem yi160 : Cond.instanceMethod ⟨"EmptyChairs", "firstIn", "(I)I"⟩ ∈ lw_tbl := (mt5 _ (List.mem_of_getElem? (i := 180) rfl))
theorem yv160 : Cond.selects "EmptyChairs" ⟨"EmptyChairs", "firstIn", "(I)I"⟩ ⟨"EmptyChairs", "firstIn", "(I)I"⟩ ∈ lw_tbl := (mt5 _ (List.mem_of_getElem? (i := 181) rfl))
theorem yok160 : YOk 160 := ⟨yc160, rfl, pn0, ⟨ph0, pv0, pd4⟩, pi0, fun h => absurd h (by decide), fun _ => ⟨yi160, Or.inr yv160⟩⟩
theorem yc161 : Cond.code ⟨"EmptyChairs", "carriedIn", "(I)I"⟩ prog_1_method_56_code 3 (some .int) ∈ lw_tbl := (mt5 _ (List.mem_of_getElem? (i := 186) rfl))
theorem yi161 : Cond.instanceMethod ⟨"EmptyChairs", "carriedIn", "(I)I"⟩ ∈ lw_tbl := (mt5 _ (List.mem_of_getElem? (i := 184) rfl))
theorem yv161 : Cond.selects "EmptyChairs" ⟨"EmptyChairs", "carriedIn", "(I)I"⟩ ⟨"EmptyChairs", "carriedIn", "(I)I"⟩ ∈ lw_tbl := (mt5 _ (List.mem_of_getElem? (i := 185) rfl))
theorem yok161 : YOk 161 := ⟨yc161, rfl, pn0, ⟨ph0, pv0, pd4⟩, pi0, fun h => absurd h (by decide), fun _ => ⟨yi161, Or.inr yv161⟩⟩
theorem yc162 : Cond.code ⟨"EmptyChairs", "reign", "(II)I"⟩ prog_1_method_57_code 5 (some .int) ∈ lw_tbl := (mt5 _ (List.mem_of_getElem? (i := 190) rfl))
theorem yi162 : Cond.instanceMethod ⟨"EmptyChairs", "reign", "(II)I"⟩ ∈ lw_tbl := (mt5 _ (List.mem_of_getElem? (i := 188) rfl))
theorem yv162 : Cond.selects "EmptyChairs" ⟨"EmptyChairs", "reign", "(II)I"⟩ ⟨"EmptyChairs", "reign", "(II)I"⟩ ∈ lw_tbl := (mt5 _ (List.mem_of_getElem? (i := 189) rfl))
theorem yok162 : YOk 162 := ⟨yc162, rfl, pn0, ⟨ph0, pv0, pd7⟩, pi0, fun h => absurd h (by decide), fun _ => ⟨yi162, Or.inr yv162⟩⟩
theorem yc163 : Cond.code ⟨"EmptyChairs", "emptyIn", "()I"⟩ prog_1_method_58_code 2 (some .int) ∈ lw_tbl := (mt5 _ (List.mem_of_getElem? (i := 194) rfl))
theorem yi163 : Cond.instanceMethod ⟨"EmptyChairs", "emptyIn", "()I"⟩ ∈ lw_tbl := (mt5 _ (List.mem_of_getElem? (i := 192) rfl))
theorem yv163 : Cond.selects "EmptyChairs" ⟨"EmptyChairs", "emptyIn", "()I"⟩ ⟨"EmptyChairs", "emptyIn", "()I"⟩ ∈ lw_tbl := (mt5 _ (List.mem_of_getElem? (i := 193) rfl))
theorem yok163 : YOk 163 := ⟨yc163, rfl, pn0, ⟨ph0, pv0, pd0⟩, pi0, fun h => absurd h (by decide), fun _ => ⟨yi163, Or.inr yv163⟩⟩
theorem yc164 : Cond.code ⟨"EmptyChairs", "fewest", "(I)I"⟩ prog_1_method_59_code 3 (some .int) ∈ lw_tbl := (mt5 _ (List.mem_of_getElem? (i := 198) rfl))
theorem yi164 : Cond.instanceMethod ⟨"EmptyChairs", "fewest", "(I)I"⟩ ∈ lw_tbl := (mt5 _ (List.mem_of_getElem? (i := 196) rfl))
theorem yv164 : Cond.selects "EmptyChairs" ⟨"EmptyChairs", "fewest", "(I)I"⟩ ⟨"EmptyChairs", "fewest", "(I)I"⟩ ∈ lw_tbl := (mt5 _ (List.mem_of_getElem? (i := 197) rfl))
theorem yok164 : YOk 164 := ⟨yc164, rfl, pn0, ⟨ph0, pv0, pd4⟩, pi0, fun h => absurd h (by decide), fun _ => ⟨yi164, Or.inr yv164⟩⟩
theorem yc165 : Cond.code ⟨"EmptyChairs", "fewestSet", "(I)I"⟩ prog_1_method_60_code 2 (some .int) ∈ lw_tbl := (mt5 _ (List.mem_of_getElem? (i := 224) rfl))
theorem yi165 : Cond.instanceMethod ⟨"EmptyChairs", "fewestSet", "(I)I"⟩ ∈ lw_tbl := (mt5 _ (List.mem_of_getElem? (i := 222) rfl))
theorem yv165 : Cond.selects "EmptyChairs" ⟨"EmptyChairs", "fewestSet", "(I)I"⟩ ⟨"EmptyChairs", "fewestSet", "(I)I"⟩ ∈ lw_tbl := (mt5 _ (List.mem_of_getElem? (i := 223) rfl))
theorem yok165 : YOk 165 := ⟨yc165, rfl, pn0, ⟨ph0, pv0, pd4⟩, pi0, fun h => absurd h (by decide), fun _ => ⟨yi165, Or.inr yv165⟩⟩
theorem yc166 : Cond.code ⟨"EmptyChairs", "cheapest", "(I)I"⟩ prog_1_method_61_code 3 (some .int) ∈ lw_tbl := (mt5 _ (List.mem_of_getElem? (i := 228) rfl))
theorem yi166 : Cond.instanceMethod ⟨"EmptyChairs", "cheapest", "(I)I"⟩ ∈ lw_tbl := (mt5 _ (List.mem_of_getElem? (i := 226) rfl))
theorem yv166 : Cond.selects "EmptyChairs" ⟨"EmptyChairs", "cheapest", "(I)I"⟩ ⟨"EmptyChairs", "cheapest", "(I)I"⟩ ∈ lw_tbl := (mt5 _ (List.mem_of_getElem? (i := 227) rfl))
theorem yok166 : YOk 166 := ⟨yc166, rfl, pn0, ⟨ph0, pv0, pd4⟩, pi0, fun h => absurd h (by decide), fun _ => ⟨yi166, Or.inr yv166⟩⟩
theorem yc167 : Cond.code ⟨"EmptyChairs", "cheapestSet", "(I)I"⟩ prog_1_method_62_code 2 (some .int) ∈ lw_tbl := (mt5 _ (List.mem_of_getElem? (i := 233) rfl))
theorem yi167 : Cond.instanceMethod ⟨"EmptyChairs", "cheapestSet", "(I)I"⟩ ∈ lw_tbl := (mt5 _ (List.mem_of_getElem? (i := 231) rfl))
theorem yv167 : Cond.selects "EmptyChairs" ⟨"EmptyChairs", "cheapestSet", "(I)I"⟩ ⟨"EmptyChairs", "cheapestSet", "(I)I"⟩ ∈ lw_tbl := (mt5 _ (List.mem_of_getElem? (i := 232) rfl))
theorem yok167 : YOk 167 := ⟨yc167, rfl, pn0, ⟨ph0, pv0, pd4⟩, pi0, fun h => absurd h (by decide), fun _ => ⟨yi167, Or.inr yv167⟩⟩
theorem yc168 : Cond.code ⟨"EmptyChairs", "powerBy", "(II)I"⟩ prog_1_method_63_code 3 (some .int) ∈ lw_tbl := (mt5 _ (List.mem_of_getElem? (i := 237) rfl))
theorem yi168 : Cond.instanceMethod ⟨"EmptyChairs", "powerBy", "(II)I"⟩ ∈ lw_tbl := (mt5 _ (List.mem_of_getElem? (i := 235) rfl))
theorem yv168 : Cond.selects "EmptyChairs" ⟨"EmptyChairs", "powerBy", "(II)I"⟩ ⟨"EmptyChairs", "powerBy", "(II)I"⟩ ∈ lw_tbl := (mt5 _ (List.mem_of_getElem? (i := 236) rfl))
theorem yok168 : YOk 168 := ⟨yc168, rfl, pn0, ⟨ph0, pv0, pd7⟩, pi0, fun h => absurd h (by decide), fun _ => ⟨yi168, Or.inr yv168⟩⟩
theorem yc169 : Cond.code ⟨"EmptyChairs", "gameTrouble", "(IIII)I"⟩ prog_1_method_64_code 5 (some .int) ∈ lw_tbl := (mt6 _ (List.mem_of_getElem? (i := 6) rfl))
theorem yi169 : Cond.instanceMethod ⟨"EmptyChairs", "gameTrouble", "(IIII)I"⟩ ∈ lw_tbl := (mt6 _ (List.mem_of_getElem? (i := 5) rfl))
theorem yv169 : Cond.selects "EmptyChairs" ⟨"EmptyChairs", "gameTrouble", "(IIII)I"⟩ ⟨"EmptyChairs", "gameTrouble", "(IIII)I"⟩ ∈ lw_tbl := in_sel (q := (⟨"EmptyChairs", "gameTrouble", "(IIII)I"⟩, 18)) (List.mem_append_right _ (List.mem_append_right _ (List.mem_append_left _ (List.mem_of_getElem? (i := 7) rfl))))
theorem yok169 : YOk 169 := ⟨yc169, rfl, pn0, ⟨ph0, pv0, pd14⟩, pi0, fun h => absurd h (by decide), fun _ => ⟨yi169, Or.inr yv169⟩⟩
theorem yc170 : Cond.code ⟨"EmptyChairs", "game", "(III)I"⟩ prog_1_method_65_code 5 (some .int) ∈ lw_tbl := (mt6 _ (List.mem_of_getElem? (i := 2) rfl))
theorem yi170 : Cond.instanceMethod ⟨"EmptyChairs", "game", "(III)I"⟩ ∈ lw_tbl := (mt6 _ (List.mem_of_getElem? (i := 0) rfl))
theorem yv170 : Cond.selects "EmptyChairs" ⟨"EmptyChairs", "game", "(III)I"⟩ ⟨"EmptyChairs", "game", "(III)I"⟩ ∈ lw_tbl := (mt6 _ (List.mem_of_getElem? (i := 1) rfl))
theorem yok170 : YOk 170 := ⟨yc170, rfl, pn0, ⟨ph0, pv0, pd11⟩, pi0, fun h => absurd h (by decide), fun _ => ⟨yi170, Or.inr yv170⟩⟩
theorem yc171 : Cond.code ⟨"EmptyChairs", "moveOf", "(III)I"⟩ prog_1_method_66_code 5 (some .int) ∈ lw_tbl := (mt6 _ (List.mem_of_getElem? (i := 23) rfl))
theorem yi171 : Cond.instanceMethod ⟨"EmptyChairs", "moveOf", "(III)I"⟩ ∈ lw_tbl := (mt6 _ (List.mem_of_getElem? (i := 21) rfl))
theorem yv171 : Cond.selects "EmptyChairs" ⟨"EmptyChairs", "moveOf", "(III)I"⟩ ⟨"EmptyChairs", "moveOf", "(III)I"⟩ ∈ lw_tbl := (mt6 _ (List.mem_of_getElem? (i := 22) rfl))
theorem yok171 : YOk 171 := ⟨yc171, rfl, pn0, ⟨ph0, pv0, pd11⟩, pi0, fun h => absurd h (by decide), fun _ => ⟨yi171, Or.inr yv171⟩⟩
theorem yc172 : Cond.code ⟨"EmptyChairs", "winning", "()I"⟩ prog_1_method_67_code 3 (some .int) ∈ lw_tbl := (mt6 _ (List.mem_of_getElem? (i := 27) rfl))
theorem yi172 : Cond.instanceMethod ⟨"EmptyChairs", "winning", "()I"⟩ ∈ lw_tbl := (mt6 _ (List.mem_of_getElem? (i := 25) rfl))
theorem yv172 : Cond.selects "EmptyChairs" ⟨"EmptyChairs", "winning", "()I"⟩ ⟨"EmptyChairs", "winning", "()I"⟩ ∈ lw_tbl := (mt6 _ (List.mem_of_getElem? (i := 26) rfl))
theorem yok172 : YOk 172 := ⟨yc172, rfl, pn0, ⟨ph0, pv0, pd0⟩, pi0, fun h => absurd h (by decide), fun _ => ⟨yi172, Or.inr yv172⟩⟩
theorem yc173 : Cond.code ⟨"EmptyChairs", "wins", "(I)I"⟩ prog_1_method_68_code 2 (some .int) ∈ lw_tbl := (mt6 _ (List.mem_of_getElem? (i := 36) rfl))
theorem yi173 : Cond.instanceMethod ⟨"EmptyChairs", "wins", "(I)I"⟩ ∈ lw_tbl := (mt6 _ (List.mem_of_getElem? (i := 34) rfl))
theorem yv173 : Cond.selects "EmptyChairs" ⟨"EmptyChairs", "wins", "(I)I"⟩ ⟨"EmptyChairs", "wins", "(I)I"⟩ ∈ lw_tbl := (mt6 _ (List.mem_of_getElem? (i := 35) rfl))
theorem yok173 : YOk 173 := ⟨yc173, rfl, pn0, ⟨ph0, pv0, pd4⟩, pi0, fun h => absurd h (by decide), fun _ => ⟨yi173, Or.inr yv173⟩⟩
theorem yc174 : Cond.code ⟨"EmptyChairs", "swings", "(I)I"⟩ prog_1_method_69_code 2 (some .int) ∈ lw_tbl := (mt6 _ (List.mem_of_getElem? (i := 40) rfl))
theorem yi174 : Cond.instanceMethod ⟨"EmptyChairs", "swings", "(I)I"⟩ ∈ lw_tbl := (mt6 _ (List.mem_of_getElem? (i := 38) rfl))
theorem yv174 : Cond.selects "EmptyChairs" ⟨"EmptyChairs", "swings", "(I)I"⟩ ⟨"EmptyChairs", "swings", "(I)I"⟩ ∈ lw_tbl := (mt6 _ (List.mem_of_getElem? (i := 39) rfl))
theorem yok174 : YOk 174 := ⟨yc174, rfl, pn0, ⟨ph0, pv0, pd4⟩, pi0, fun h => absurd h (by decide), fun _ => ⟨yi174, Or.inr yv174⟩⟩
theorem yc175 : Cond.code ⟨"EmptyChairs", "share", "(I)Z"⟩ prog_1_method_70_code 4 (some .boolean) ∈ lw_tbl := (mt6 _ (List.mem_of_getElem? (i := 49) rfl))
theorem yi175 : Cond.instanceMethod ⟨"EmptyChairs", "share", "(I)Z"⟩ ∈ lw_tbl := (mt6 _ (List.mem_of_getElem? (i := 47) rfl))
theorem yv175 : Cond.selects "EmptyChairs" ⟨"EmptyChairs", "share", "(I)Z"⟩ ⟨"EmptyChairs", "share", "(I)Z"⟩ ∈ lw_tbl := (mt6 _ (List.mem_of_getElem? (i := 48) rfl))
theorem yok175 : YOk 175 := ⟨yc175, rfl, pn0, ⟨ph0, pv0, pd6⟩, pi0, fun h => absurd h (by decide), fun _ => ⟨yi175, Or.inr yv175⟩⟩
theorem yc176 : Cond.code ⟨"EmptyChairs", "lean", "()I"⟩ prog_1_method_71_code 3 (some .int) ∈ lw_tbl := (mt6 _ (List.mem_of_getElem? (i := 60) rfl))
theorem yi176 : Cond.instanceMethod ⟨"EmptyChairs", "lean", "()I"⟩ ∈ lw_tbl := (mt6 _ (List.mem_of_getElem? (i := 58) rfl))
theorem yv176 : Cond.selects "EmptyChairs" ⟨"EmptyChairs", "lean", "()I"⟩ ⟨"EmptyChairs", "lean", "()I"⟩ ∈ lw_tbl := (mt6 _ (List.mem_of_getElem? (i := 59) rfl))
theorem yok176 : YOk 176 := ⟨yc176, rfl, pn0, ⟨ph0, pv0, pd0⟩, pi0, fun h => absurd h (by decide), fun _ => ⟨yi176, Or.inr yv176⟩⟩
theorem yc177 : Cond.code ⟨"EmptyChairs", "carriedBy", "(III)I"⟩ prog_1_method_72_code 4 (some .int) ∈ lw_tbl := (mt6 _ (List.mem_of_getElem? (i := 68) rfl))
theorem yi177 : Cond.instanceMethod ⟨"EmptyChairs", "carriedBy", "(III)I"⟩ ∈ lw_tbl := (mt6 _ (List.mem_of_getElem? (i := 66) rfl))
theorem yv177 : Cond.selects "EmptyChairs" ⟨"EmptyChairs", "carriedBy", "(III)I"⟩ ⟨"EmptyChairs", "carriedBy", "(III)I"⟩ ∈ lw_tbl := (mt6 _ (List.mem_of_getElem? (i := 67) rfl))
theorem yok177 : YOk 177 := ⟨yc177, rfl, pn0, ⟨ph0, pv0, pd11⟩, pi0, fun h => absurd h (by decide), fun _ => ⟨yi177, Or.inr yv177⟩⟩
theorem yc178 : Cond.code ⟨"EmptyChairs", "farFor", "(I)I"⟩ prog_1_method_73_code 3 (some .int) ∈ lw_tbl := (mt6 _ (List.mem_of_getElem? (i := 73) rfl))
theorem yi178 : Cond.instanceMethod ⟨"EmptyChairs", "farFor", "(I)I"⟩ ∈ lw_tbl := (mt6 _ (List.mem_of_getElem? (i := 71) rfl))
theorem yv178 : Cond.selects "EmptyChairs" ⟨"EmptyChairs", "farFor", "(I)I"⟩ ⟨"EmptyChairs", "farFor", "(I)I"⟩ ∈ lw_tbl := (mt6 _ (List.mem_of_getElem? (i := 72) rfl))
theorem yok178 : YOk 178 := ⟨yc178, rfl, pn0, ⟨ph0, pv0, pd4⟩, pi0, fun h => absurd h (by decide), fun _ => ⟨yi178, Or.inr yv178⟩⟩
theorem yc179 : Cond.code ⟨"EmptyChairs", "tally", "(I)I"⟩ prog_1_method_74_code 3 (some .int) ∈ lw_tbl := (mt6 _ (List.mem_of_getElem? (i := 77) rfl))
theorem yi179 : Cond.instanceMethod ⟨"EmptyChairs", "tally", "(I)I"⟩ ∈ lw_tbl := (mt6 _ (List.mem_of_getElem? (i := 75) rfl))
theorem yv179 : Cond.selects "EmptyChairs" ⟨"EmptyChairs", "tally", "(I)I"⟩ ⟨"EmptyChairs", "tally", "(I)I"⟩ ∈ lw_tbl := (mt6 _ (List.mem_of_getElem? (i := 76) rfl))
theorem yok179 : YOk 179 := ⟨yc179, rfl, pn0, ⟨ph0, pv0, pd4⟩, pi0, fun h => absurd h (by decide), fun _ => ⟨yi179, Or.inr yv179⟩⟩
theorem yc180 : Cond.code ⟨"EmptyChairs", "sure", "(I)I"⟩ prog_1_method_75_code 3 (some .int) ∈ lw_tbl := (mt6 _ (List.mem_of_getElem? (i := 97) rfl))
theorem yi180 : Cond.instanceMethod ⟨"EmptyChairs", "sure", "(I)I"⟩ ∈ lw_tbl := (mt6 _ (List.mem_of_getElem? (i := 95) rfl))
theorem yv180 : Cond.selects "EmptyChairs" ⟨"EmptyChairs", "sure", "(I)I"⟩ ⟨"EmptyChairs", "sure", "(I)I"⟩ ∈ lw_tbl := (mt6 _ (List.mem_of_getElem? (i := 96) rfl))
theorem yok180 : YOk 180 := ⟨yc180, rfl, pn0, ⟨ph0, pv0, pd4⟩, pi0, fun h => absurd h (by decide), fun _ => ⟨yi180, Or.inr yv180⟩⟩
theorem yc181 : Cond.code ⟨"EmptyChairs", "ask", "(I)I"⟩ prog_1_method_76_code 3 (some .int) ∈ lw_tbl := (mt6 _ (List.mem_of_getElem? (i := 101) rfl))
theorem yi181 : Cond.instanceMethod ⟨"EmptyChairs", "ask", "(I)I"⟩ ∈ lw_tbl := (mt6 _ (List.mem_of_getElem? (i := 99) rfl))
theorem yv181 : Cond.selects "EmptyChairs" ⟨"EmptyChairs", "ask", "(I)I"⟩ ⟨"EmptyChairs", "ask", "(I)I"⟩ ∈ lw_tbl := (mt6 _ (List.mem_of_getElem? (i := 100) rfl))
theorem yok181 : YOk 181 := ⟨yc181, rfl, pn0, ⟨ph0, pv0, pd4⟩, pi0, fun h => absurd h (by decide), fun _ => ⟨yi181, Or.inr yv181⟩⟩
theorem yc182 : Cond.code ⟨"EmptyChairs", "seek", "()Z"⟩ prog_1_method_77_code 6 (some .boolean) ∈ lw_tbl := (mt6 _ (List.mem_of_getElem? (i := 110) rfl))
theorem yi182 : Cond.instanceMethod ⟨"EmptyChairs", "seek", "()Z"⟩ ∈ lw_tbl := (mt6 _ (List.mem_of_getElem? (i := 108) rfl))
theorem yv182 : Cond.selects "EmptyChairs" ⟨"EmptyChairs", "seek", "()Z"⟩ ⟨"EmptyChairs", "seek", "()Z"⟩ ∈ lw_tbl := (mt6 _ (List.mem_of_getElem? (i := 109) rfl))
theorem yok182 : YOk 182 := ⟨yc182, rfl, pn0, ⟨ph0, pv0, pd3⟩, pi0, fun h => absurd h (by decide), fun _ => ⟨yi182, Or.inr yv182⟩⟩
theorem yc183 : Cond.code ⟨"EmptyChairs", "seekAt", "(I)I"⟩ prog_1_method_78_code 2 (some .int) ∈ lw_tbl := (mt6 _ (List.mem_of_getElem? (i := 126) rfl))
theorem yi183 : Cond.instanceMethod ⟨"EmptyChairs", "seekAt", "(I)I"⟩ ∈ lw_tbl := (mt6 _ (List.mem_of_getElem? (i := 124) rfl))
theorem yv183 : Cond.selects "EmptyChairs" ⟨"EmptyChairs", "seekAt", "(I)I"⟩ ⟨"EmptyChairs", "seekAt", "(I)I"⟩ ∈ lw_tbl := (mt6 _ (List.mem_of_getElem? (i := 125) rfl))
theorem yok183 : YOk 183 := ⟨yc183, rfl, pn0, ⟨ph0, pv0, pd4⟩, pi0, fun h => absurd h (by decide), fun _ => ⟨yi183, Or.inr yv183⟩⟩
theorem yc184 : Cond.code ⟨"EmptyChairs", "live", "(I)I"⟩ prog_1_method_79_code 3 (some .int) ∈ lw_tbl := (mt6 _ (List.mem_of_getElem? (i := 130) rfl))
theorem yi184 : Cond.instanceMethod ⟨"EmptyChairs", "live", "(I)I"⟩ ∈ lw_tbl := (mt6 _ (List.mem_of_getElem? (i := 128) rfl))
theorem yv184 : Cond.selects "EmptyChairs" ⟨"EmptyChairs", "live", "(I)I"⟩ ⟨"EmptyChairs", "live", "(I)I"⟩ ∈ lw_tbl := (mt6 _ (List.mem_of_getElem? (i := 129) rfl))
theorem yok184 : YOk 184 := ⟨yc184, rfl, pn0, ⟨ph0, pv0, pd4⟩, pi0, fun h => absurd h (by decide), fun _ => ⟨yi184, Or.inr yv184⟩⟩
theorem yc185 : Cond.code ⟨"EmptyChairs", "lived", "(I)I"⟩ prog_1_method_80_code 2 (some .int) ∈ lw_tbl := (mt6 _ (List.mem_of_getElem? (i := 171) rfl))
theorem yi185 : Cond.instanceMethod ⟨"EmptyChairs", "lived", "(I)I"⟩ ∈ lw_tbl := (mt6 _ (List.mem_of_getElem? (i := 169) rfl))
theorem yv185 : Cond.selects "EmptyChairs" ⟨"EmptyChairs", "lived", "(I)I"⟩ ⟨"EmptyChairs", "lived", "(I)I"⟩ ∈ lw_tbl := (mt6 _ (List.mem_of_getElem? (i := 170) rfl))
theorem yok185 : YOk 185 := ⟨yc185, rfl, pn0, ⟨ph0, pv0, pd4⟩, pi0, fun h => absurd h (by decide), fun _ => ⟨yi185, Or.inr yv185⟩⟩
theorem yc186 : Cond.code ⟨"EmptyChairs", "mean", "(II)Z"⟩ prog_1_method_81_code 6 (some .boolean) ∈ lw_tbl := (mt6 _ (List.mem_of_getElem? (i := 175) rfl))
theorem yi186 : Cond.instanceMethod ⟨"EmptyChairs", "mean", "(II)Z"⟩ ∈ lw_tbl := (mt6 _ (List.mem_of_getElem? (i := 173) rfl))
theorem yv186 : Cond.selects "EmptyChairs" ⟨"EmptyChairs", "mean", "(II)Z"⟩ ⟨"EmptyChairs", "mean", "(II)Z"⟩ ∈ lw_tbl := (mt6 _ (List.mem_of_getElem? (i := 174) rfl))
theorem yok186 : YOk 186 := ⟨yc186, rfl, pn0, ⟨ph0, pv0, pd10⟩, pi0, fun h => absurd h (by decide), fun _ => ⟨yi186, Or.inr yv186⟩⟩
theorem yc187 : Cond.code ⟨"EmptyChairs", "mark", "()I"⟩ prog_1_method_82_code 1 (some .int) ∈ lw_tbl := (mt6 _ (List.mem_of_getElem? (i := 179) rfl))
theorem yi187 : Cond.instanceMethod ⟨"EmptyChairs", "mark", "()I"⟩ ∈ lw_tbl := (mt6 _ (List.mem_of_getElem? (i := 177) rfl))
theorem yv187 : Cond.selects "EmptyChairs" ⟨"EmptyChairs", "mark", "()I"⟩ ⟨"EmptyChairs", "mark", "()I"⟩ ∈ lw_tbl := (mt6 _ (List.mem_of_getElem? (i := 178) rfl))
theorem yok187 : YOk 187 := ⟨yc187, rfl, pn0, ⟨ph0, pv0, pd0⟩, pi0, fun h => absurd h (by decide), fun _ => ⟨yi187, Or.inr yv187⟩⟩
theorem yc188 : Cond.code ⟨"EmptyChairs", "back", "()I"⟩ prog_1_method_83_code 1 (some .int) ∈ lw_tbl := (mt6 _ (List.mem_of_getElem? (i := 183) rfl))
theorem yi188 : Cond.instanceMethod ⟨"EmptyChairs", "back", "()I"⟩ ∈ lw_tbl := (mt6 _ (List.mem_of_getElem? (i := 181) rfl))
theorem yv188 : Cond.selects "EmptyChairs" ⟨"EmptyChairs", "back", "()I"⟩ ⟨"EmptyChairs", "back", "()I"⟩ ∈ lw_tbl := (mt6 _ (List.mem_of_getElem? (i := 182) rfl))
theorem yok188 : YOk 188 := ⟨yc188, rfl, pn0, ⟨ph0, pv0, pd0⟩, pi0, fun h => absurd h (by decide), fun _ => ⟨yi188, Or.inr yv188⟩⟩
theorem yc189 : Cond.code ⟨"EmptyChairsModel", "<init>", "()V"⟩ prog_14_method_1_code 2 (none) ∈ lw_tbl := (mt6 _ (List.mem_of_getElem? (i := 188) rfl))
theorem yi189 : Cond.instanceMethod ⟨"EmptyChairsModel", "<init>", "()V"⟩ ∈ lw_tbl := (mt6 _ (List.mem_of_getElem? (i := 187) rfl))
theorem yok189 : YOk 189 := ⟨yc189, rfl, pn12, ⟨ph12, pv12, pd2⟩, pi12, fun h => absurd h (by decide), fun _ => ⟨yi189, Or.inl rfl⟩⟩
theorem yc190 : Cond.code ⟨"EmptyChairsModel", "status", "()I"⟩ prog_14_method_3_code 1 (some .int) ∈ lw_tbl := (mt7 _ (List.mem_of_getElem? (i := 84) rfl))
theorem yi190 : Cond.instanceMethod ⟨"EmptyChairsModel", "status", "()I"⟩ ∈ lw_tbl := (mt7 _ (List.mem_of_getElem? (i := 82) rfl))
theorem yv190 : Cond.selects "EmptyChairsModel" ⟨"EmptyChairsModel", "status", "()I"⟩ ⟨"EmptyChairsModel", "status", "()I"⟩ ∈ lw_tbl := (mt7 _ (List.mem_of_getElem? (i := 83) rfl))
theorem yok190 : YOk 190 := ⟨yc190, rfl, pn12, ⟨ph12, pv12, pd0⟩, pi12, fun h => absurd h (by decide), fun _ => ⟨yi190, Or.inr yv190⟩⟩
theorem yc191 : Cond.code ⟨"EmptyChairsModel", "top", "()J"⟩ prog_14_method_4_code 1 (some .long) ∈ lw_tbl := (mt7 _ (List.mem_of_getElem? (i := 88) rfl))
theorem yi191 : Cond.instanceMethod ⟨"EmptyChairsModel", "top", "()J"⟩ ∈ lw_tbl := (mt7 _ (List.mem_of_getElem? (i := 86) rfl))
theorem yv191 : Cond.selects "EmptyChairsModel" ⟨"EmptyChairsModel", "top", "()J"⟩ ⟨"EmptyChairsModel", "top", "()J"⟩ ∈ lw_tbl := (mt7 _ (List.mem_of_getElem? (i := 87) rfl))
theorem yok191 : YOk 191 := ⟨yc191, rfl, pn12, ⟨ph12, pv12, pd1⟩, pi12, fun h => absurd h (by decide), fun _ => ⟨yi191, Or.inr yv191⟩⟩
theorem yc192 : Cond.code ⟨"EmptyChairsModel", "bottom", "()J"⟩ prog_14_method_5_code 1 (some .long) ∈ lw_tbl := (mt7 _ (List.mem_of_getElem? (i := 92) rfl))
theorem yi192 : Cond.instanceMethod ⟨"EmptyChairsModel", "bottom", "()J"⟩ ∈ lw_tbl := (mt7 _ (List.mem_of_getElem? (i := 90) rfl))
theorem yv192 : Cond.selects "EmptyChairsModel" ⟨"EmptyChairsModel", "bottom", "()J"⟩ ⟨"EmptyChairsModel", "bottom", "()J"⟩ ∈ lw_tbl := (mt7 _ (List.mem_of_getElem? (i := 91) rfl))
theorem yok192 : YOk 192 := ⟨yc192, rfl, pn12, ⟨ph12, pv12, pd1⟩, pi12, fun h => absurd h (by decide), fun _ => ⟨yi192, Or.inr yv192⟩⟩
theorem yc193 : Cond.code ⟨"EmptyChairsModel", "refuse", "(I)I"⟩ prog_14_method_6_code 2 (some .int) ∈ lw_tbl := (mt8 _ (List.mem_of_getElem? (i := 154) rfl))
theorem yi193 : Cond.instanceMethod ⟨"EmptyChairsModel", "refuse", "(I)I"⟩ ∈ lw_tbl := (mt8 _ (List.mem_of_getElem? (i := 153) rfl))
theorem yv193 : Cond.selects "EmptyChairsModel" ⟨"EmptyChairsModel", "refuse", "(I)I"⟩ ⟨"EmptyChairsModel", "refuse", "(I)I"⟩ ∈ lw_tbl := in_sel (q := (⟨"EmptyChairsModel", "refuse", "(I)I"⟩, 42)) (List.mem_append_right _ (List.mem_append_right _ (List.mem_append_right _ (List.mem_append_right _ (List.mem_append_right _ (List.mem_append_right _ (List.mem_append_left _ (List.mem_of_getElem? (i := 15) rfl))))))))
theorem yok193 : YOk 193 := ⟨yc193, rfl, pn12, ⟨ph12, pv12, pd4⟩, pi12, fun h => absurd h (by decide), fun _ => ⟨yi193, Or.inr yv193⟩⟩
theorem yc194 : Cond.code ⟨"EmptyChairsModel", "no", "(I)Z"⟩ prog_14_method_7_code 2 (some .boolean) ∈ lw_tbl := (mt7 _ (List.mem_of_getElem? (i := 100) rfl))
theorem yi194 : Cond.instanceMethod ⟨"EmptyChairsModel", "no", "(I)Z"⟩ ∈ lw_tbl := (mt7 _ (List.mem_of_getElem? (i := 99) rfl))
theorem yv194 : Cond.selects "EmptyChairsModel" ⟨"EmptyChairsModel", "no", "(I)Z"⟩ ⟨"EmptyChairsModel", "no", "(I)Z"⟩ ∈ lw_tbl := in_sel (q := (⟨"EmptyChairsModel", "no", "(I)Z"⟩, 42)) (List.mem_append_right _ (List.mem_append_right _ (List.mem_append_right _ (List.mem_append_left _ (List.mem_of_getElem? (i := 4) rfl)))))
theorem yok194 : YOk 194 := ⟨yc194, rfl, pn12, ⟨ph12, pv12, pd6⟩, pi12, fun h => absurd h (by decide), fun _ => ⟨yi194, Or.inr yv194⟩⟩
theorem yc195 : Cond.code ⟨"EmptyChairsModel", "isIn", "(JJJ)Z"⟩ prog_14_method_8_code 6 (some .boolean) ∈ lw_tbl := (mt7 _ (List.mem_of_getElem? (i := 201) rfl))
theorem ys195 : Cond.static ⟨"EmptyChairsModel", "isIn", "(JJJ)Z"⟩ ∈ lw_tbl := (mt7 _ (List.mem_of_getElem? (i := 200) rfl))
theorem yok195 : YOk 195 := ⟨yc195, rfl, pn12, ⟨ph12, pv12, pd32⟩, pi12, fun _ => ys195, fun h => absurd h (by decide)⟩
theorem yc196 : Cond.code ⟨"EmptyChairsModel", "fraction", "(JJ)Z"⟩ prog_14_method_9_code 11 (some .boolean) ∈ lw_tbl := (mt9 _ (List.mem_of_getElem? (i := 207) rfl))
theorem yi196 : Cond.instanceMethod ⟨"EmptyChairsModel", "fraction", "(JJ)Z"⟩ ∈ lw_tbl := (mt9 _ (List.mem_of_getElem? (i := 206) rfl))
theorem yv196 : Cond.selects "EmptyChairsModel" ⟨"EmptyChairsModel", "fraction", "(JJ)Z"⟩ ⟨"EmptyChairsModel", "fraction", "(JJ)Z"⟩ ∈ lw_tbl := in_sel (q := (⟨"EmptyChairsModel", "fraction", "(JJ)Z"⟩, 42)) (List.mem_append_right _ (List.mem_append_right _ (List.mem_append_right _ (List.mem_append_right _ (List.mem_append_right _ (List.mem_append_right _ (List.mem_append_right _ (List.mem_append_right _ (List.mem_append_left _ (List.mem_of_getElem? (i := 15) rfl))))))))))
theorem yok196 : YOk 196 := ⟨yc196, rfl, pn12, ⟨ph12, pv12, pd31⟩, pi12, fun h => absurd h (by decide), fun _ => ⟨yi196, Or.inr yv196⟩⟩
theorem yc197 : Cond.code ⟨"EmptyChairsModel", "cut", "(IJ)J"⟩ prog_14_method_10_code 3 (some .long) ∈ lw_tbl := (mt7 _ (List.mem_of_getElem? (i := 115) rfl))
theorem ys197 : Cond.static ⟨"EmptyChairsModel", "cut", "(IJ)J"⟩ ∈ lw_tbl := (mt7 _ (List.mem_of_getElem? (i := 114) rfl))
theorem yok197 : YOk 197 := ⟨yc197, rfl, pn12, ⟨ph12, pv12, pd21⟩, pi12, fun _ => ys197, fun h => absurd h (by decide)⟩
theorem yc198 : Cond.code ⟨"EmptyChairsModel", "tray", "(III)Z"⟩ prog_14_method_11_code 5 (some .boolean) ∈ lw_tbl := (mt7 _ (List.mem_of_getElem? (i := 96) rfl))
theorem yi198 : Cond.instanceMethod ⟨"EmptyChairsModel", "tray", "(III)Z"⟩ ∈ lw_tbl := (mt7 _ (List.mem_of_getElem? (i := 94) rfl))
theorem yv198 : Cond.selects "EmptyChairsModel" ⟨"EmptyChairsModel", "tray", "(III)Z"⟩ ⟨"EmptyChairsModel", "tray", "(III)Z"⟩ ∈ lw_tbl := (mt7 _ (List.mem_of_getElem? (i := 95) rfl))
theorem yok198 : YOk 198 := ⟨yc198, rfl, pn12, ⟨ph12, pv12, pd13⟩, pi12, fun h => absurd h (by decide), fun _ => ⟨yi198, Or.inr yv198⟩⟩
theorem yc199 : Cond.code ⟨"EmptyChairsModel", "trayed", "(I)I"⟩ prog_14_method_12_code 2 (some .int) ∈ lw_tbl := (mt7 _ (List.mem_of_getElem? (i := 112) rfl))
theorem yi199 : Cond.instanceMethod ⟨"EmptyChairsModel", "trayed", "(I)I"⟩ ∈ lw_tbl := (mt7 _ (List.mem_of_getElem? (i := 111) rfl))
theorem yv199 : Cond.selects "EmptyChairsModel" ⟨"EmptyChairsModel", "trayed", "(I)I"⟩ ⟨"EmptyChairsModel", "trayed", "(I)I"⟩ ∈ lw_tbl := in_sel (q := (⟨"EmptyChairsModel", "trayed", "(I)I"⟩, 42)) (List.mem_append_right _ (List.mem_append_right _ (List.mem_append_right _ (List.mem_append_left _ (List.mem_of_getElem? (i := 6) rfl)))))
theorem yok199 : YOk 199 := ⟨yc199, rfl, pn12, ⟨ph12, pv12, pd4⟩, pi12, fun h => absurd h (by decide), fun _ => ⟨yi199, Or.inr yv199⟩⟩
theorem yc200 : Cond.code ⟨"EmptyChairsModel", "placed", "(II)I"⟩ prog_14_method_13_code 4 (some .int) ∈ lw_tbl := (mt7 _ (List.mem_of_getElem? (i := 108) rfl))
theorem yi200 : Cond.instanceMethod ⟨"EmptyChairsModel", "placed", "(II)I"⟩ ∈ lw_tbl := (mt7 _ (List.mem_of_getElem? (i := 107) rfl))
theorem yv200 : Cond.selects "EmptyChairsModel" ⟨"EmptyChairsModel", "placed", "(II)I"⟩ ⟨"EmptyChairsModel", "placed", "(II)I"⟩ ∈ lw_tbl := in_sel (q := (⟨"EmptyChairsModel", "placed", "(II)I"⟩, 42)) (List.mem_append_right _ (List.mem_append_right _ (List.mem_append_right _ (List.mem_append_left _ (List.mem_of_getElem? (i := 5) rfl)))))
theorem yok200 : YOk 200 := ⟨yc200, rfl, pn12, ⟨ph12, pv12, pd7⟩, pi12, fun h => absurd h (by decide), fun _ => ⟨yi200, Or.inr yv200⟩⟩
theorem yc201 : Cond.code ⟨"EmptyChairsModel", "write", "(IIJ)Z"⟩ prog_14_method_14_code 5 (some .boolean) ∈ lw_tbl := (mt7 _ (List.mem_of_getElem? (i := 104) rfl))
theorem yi201 : Cond.instanceMethod ⟨"EmptyChairsModel", "write", "(IIJ)Z"⟩ ∈ lw_tbl := (mt7 _ (List.mem_of_getElem? (i := 102) rfl))
theorem yv201 : Cond.selects "EmptyChairsModel" ⟨"EmptyChairsModel", "write", "(IIJ)Z"⟩ ⟨"EmptyChairsModel", "write", "(IIJ)Z"⟩ ∈ lw_tbl := (mt7 _ (List.mem_of_getElem? (i := 103) rfl))
theorem yok201 : YOk 201 := ⟨yc201, rfl, pn12, ⟨ph12, pv12, pd19⟩, pi12, fun h => absurd h (by decide), fun _ => ⟨yi201, Or.inr yv201⟩⟩
theorem yc202 : Cond.code ⟨"EmptyChairsModel", "read", "(II)J"⟩ prog_14_method_15_code 3 (some .long) ∈ lw_tbl := (mt7 _ (List.mem_of_getElem? (i := 119) rfl))
theorem yi202 : Cond.instanceMethod ⟨"EmptyChairsModel", "read", "(II)J"⟩ ∈ lw_tbl := (mt7 _ (List.mem_of_getElem? (i := 117) rfl))
theorem yv202 : Cond.selects "EmptyChairsModel" ⟨"EmptyChairsModel", "read", "(II)J"⟩ ⟨"EmptyChairsModel", "read", "(II)J"⟩ ∈ lw_tbl := (mt7 _ (List.mem_of_getElem? (i := 118) rfl))
theorem yok202 : YOk 202 := ⟨yc202, rfl, pn12, ⟨ph12, pv12, pd8⟩, pi12, fun h => absurd h (by decide), fun _ => ⟨yi202, Or.inr yv202⟩⟩
theorem yc203 : Cond.code ⟨"EmptyChairsModel", "pour", "(IIIII)Z"⟩ prog_14_method_16_code 9 (some .boolean) ∈ lw_tbl := (mt7 _ (List.mem_of_getElem? (i := 124) rfl))
theorem yi203 : Cond.instanceMethod ⟨"EmptyChairsModel", "pour", "(IIIII)Z"⟩ ∈ lw_tbl := (mt7 _ (List.mem_of_getElem? (i := 122) rfl))
theorem yv203 : Cond.selects "EmptyChairsModel" ⟨"EmptyChairsModel", "pour", "(IIIII)Z"⟩ ⟨"EmptyChairsModel", "pour", "(IIIII)Z"⟩ ∈ lw_tbl := (mt7 _ (List.mem_of_getElem? (i := 123) rfl))
theorem yok203 : YOk 203 := ⟨yc203, rfl, pn12, ⟨ph12, pv12, pd17⟩, pi12, fun h => absurd h (by decide), fun _ => ⟨yi203, Or.inr yv203⟩⟩
theorem yc204 : Cond.code ⟨"EmptyChairsModel", "numberOf", "(II)J"⟩ prog_14_method_17_code 3 (some .long) ∈ lw_tbl := (mt10 _ (List.mem_of_getElem? (i := 2) rfl))
theorem yi204 : Cond.instanceMethod ⟨"EmptyChairsModel", "numberOf", "(II)J"⟩ ∈ lw_tbl := (mt10 _ (List.mem_of_getElem? (i := 1) rfl))
theorem yv204 : Cond.selects "EmptyChairsModel" ⟨"EmptyChairsModel", "numberOf", "(II)J"⟩ ⟨"EmptyChairsModel", "numberOf", "(II)J"⟩ ∈ lw_tbl := in_sel (q := (⟨"EmptyChairsModel", "numberOf", "(II)J"⟩, 42)) (List.mem_append_right _ (List.mem_append_right _ (List.mem_append_right _ (List.mem_append_right _ (List.mem_append_right _ (List.mem_append_right _ (List.mem_append_right _ (List.mem_append_right _ (List.mem_append_right _ (List.mem_of_getElem? (i := 3) rfl))))))))))
theorem yok204 : YOk 204 := ⟨yc204, rfl, pn12, ⟨ph12, pv12, pd8⟩, pi12, fun h => absurd h (by decide), fun _ => ⟨yi204, Or.inr yv204⟩⟩
theorem yc205 : Cond.code ⟨"EmptyChairsModel", "isTray", "(I)Z"⟩ prog_14_method_18_code 2 (some .boolean) ∈ lw_tbl := (mt9 _ (List.mem_of_getElem? (i := 20) rfl))
theorem yi205 : Cond.instanceMethod ⟨"EmptyChairsModel", "isTray", "(I)Z"⟩ ∈ lw_tbl := (mt9 _ (List.mem_of_getElem? (i := 19) rfl))
theorem yv205 : Cond.selects "EmptyChairsModel" ⟨"EmptyChairsModel", "isTray", "(I)Z"⟩ ⟨"EmptyChairsModel", "isTray", "(I)Z"⟩ ∈ lw_tbl := in_sel (q := (⟨"EmptyChairsModel", "isTray", "(I)Z"⟩, 42)) (List.mem_append_right _ (List.mem_append_right _ (List.mem_append_right _ (List.mem_append_right _ (List.mem_append_right _ (List.mem_append_right _ (List.mem_append_right _ (List.mem_append_left _ (List.mem_of_getElem? (i := 15) rfl)))))))))
theorem yok205 : YOk 205 := ⟨yc205, rfl, pn12, ⟨ph12, pv12, pd6⟩, pi12, fun h => absurd h (by decide), fun _ => ⟨yi205, Or.inr yv205⟩⟩
theorem yc206 : Cond.code ⟨"EmptyChairsModel", "has", "(II)Z"⟩ prog_14_method_19_code 2 (some .boolean) ∈ lw_tbl := (mt7 _ (List.mem_of_getElem? (i := 186) rfl))
theorem ys206 : Cond.static ⟨"EmptyChairsModel", "has", "(II)Z"⟩ ∈ lw_tbl := (mt7 _ (List.mem_of_getElem? (i := 185) rfl))
theorem yok206 : YOk 206 := ⟨yc206, rfl, pn12, ⟨ph12, pv12, pd10⟩, pi12, fun _ => ys206, fun h => absurd h (by decide)⟩
theorem yc207 : Cond.code ⟨"EmptyChairsModel", "sizeOf", "(I)I"⟩ prog_14_method_20_code 3 (some .int) ∈ lw_tbl := (mt9 _ (List.mem_of_getElem? (i := 50) rfl))
theorem ys207 : Cond.static ⟨"EmptyChairsModel", "sizeOf", "(I)I"⟩ ∈ lw_tbl := (mt9 _ (List.mem_of_getElem? (i := 49) rfl))
theorem yok207 : YOk 207 := ⟨yc207, rfl, pn12, ⟨ph12, pv12, pd4⟩, pi12, fun _ => ys207, fun h => absurd h (by decide)⟩
theorem yc208 : Cond.code ⟨"EmptyChairsModel", "look2", "(I)I"⟩ prog_14_method_21_code 2 (some .int) ∈ lw_tbl := (mt7 _ (List.mem_of_getElem? (i := 152) rfl))
theorem yi208 : Cond.instanceMethod ⟨"EmptyChairsModel", "look2", "(I)I"⟩ ∈ lw_tbl := (mt7 _ (List.mem_of_getElem? (i := 151) rfl))
theorem yv208 : Cond.selects "EmptyChairsModel" ⟨"EmptyChairsModel", "look2", "(I)I"⟩ ⟨"EmptyChairsModel", "look2", "(I)I"⟩ ∈ lw_tbl := in_sel (q := (⟨"EmptyChairsModel", "look2", "(I)I"⟩, 42)) (List.mem_append_right _ (List.mem_append_right _ (List.mem_append_right _ (List.mem_append_left _ (List.mem_of_getElem? (i := 10) rfl)))))
theorem yok208 : YOk 208 := ⟨yc208, rfl, pn12, ⟨ph12, pv12, pd4⟩, pi12, fun h => absurd h (by decide), fun _ => ⟨yi208, Or.inr yv208⟩⟩
theorem yc209 : Cond.code ⟨"EmptyChairsModel", "isLetter", "(I)Z"⟩ prog_14_method_22_code 1 (some .boolean) ∈ lw_tbl := (mt7 _ (List.mem_of_getElem? (i := 155) rfl))
theorem ys209 : Cond.static ⟨"EmptyChairsModel", "isLetter", "(I)Z"⟩ ∈ lw_tbl := (mt7 _ (List.mem_of_getElem? (i := 154) rfl))
theorem yok209 : YOk 209 := ⟨yc209, rfl, pn12, ⟨ph12, pv12, pd6⟩, pi12, fun _ => ys209, fun h => absurd h (by decide)⟩
theorem yc210 : Cond.code ⟨"EmptyChairsModel", "isDigit", "(I)Z"⟩ prog_14_method_23_code 1 (some .boolean) ∈ lw_tbl := (mt7 _ (List.mem_of_getElem? (i := 160) rfl))
theorem ys210 : Cond.static ⟨"EmptyChairsModel", "isDigit", "(I)Z"⟩ ∈ lw_tbl := (mt7 _ (List.mem_of_getElem? (i := 159) rfl))
theorem yok210 : YOk 210 := ⟨yc210, rfl, pn12, ⟨ph12, pv12, pd6⟩, pi12, fun _ => ys210, fun h => absurd h (by decide)⟩
theorem yc211 : Cond.code ⟨"EmptyChairsModel", "isSignByte", "(I)Z"⟩ prog_14_method_24_code 2 (some .boolean) ∈ lw_tbl := (mt7 _ (List.mem_of_getElem? (i := 164) rfl))
theorem yi211 : Cond.instanceMethod ⟨"EmptyChairsModel", "isSignByte", "(I)Z"⟩ ∈ lw_tbl := (mt7 _ (List.mem_of_getElem? (i := 163) rfl))
theorem yv211 : Cond.selects "EmptyChairsModel" ⟨"EmptyChairsModel", "isSignByte", "(I)Z"⟩ ⟨"EmptyChairsModel", "isSignByte", "(I)Z"⟩ ∈ lw_tbl := in_sel (q := (⟨"EmptyChairsModel", "isSignByte", "(I)Z"⟩, 42)) (List.mem_append_right _ (List.mem_append_right _ (List.mem_append_right _ (List.mem_append_left _ (List.mem_of_getElem? (i := 11) rfl)))))
theorem yok211 : YOk 211 := ⟨yc211, rfl, pn12, ⟨ph12, pv12, pd6⟩, pi12, fun h => absurd h (by decide), fun _ => ⟨yi211, Or.inr yv211⟩⟩
theorem yc212 : Cond.code ⟨"EmptyChairsModel", "advance", "()V"⟩ prog_14_method_25_code 2 (none) ∈ lw_tbl := (mt7 _ (List.mem_of_getElem? (i := 148) rfl))
theorem yi212 : Cond.instanceMethod ⟨"EmptyChairsModel", "advance", "()V"⟩ ∈ lw_tbl := (mt7 _ (List.mem_of_getElem? (i := 147) rfl))
theorem yv212 : Cond.selects "EmptyChairsModel" ⟨"EmptyChairsModel", "advance", "()V"⟩ ⟨"EmptyChairsModel", "advance", "()V"⟩ ∈ lw_tbl := in_sel (q := (⟨"EmptyChairsModel", "advance", "()V"⟩, 42)) (List.mem_append_right _ (List.mem_append_right _ (List.mem_append_right _ (List.mem_append_left _ (List.mem_of_getElem? (i := 9) rfl)))))
theorem yok212 : YOk 212 := ⟨yc212, rfl, pn12, ⟨ph12, pv12, pd2⟩, pi12, fun h => absurd h (by decide), fun _ => ⟨yi212, Or.inr yv212⟩⟩
theorem yc213 : Cond.code ⟨"EmptyChairsModel", "isSign", "(I)Z"⟩ prog_14_method_26_code 2 (some .boolean) ∈ lw_tbl := (mt8 _ (List.mem_of_getElem? (i := 121) rfl))
theorem yi213 : Cond.instanceMethod ⟨"EmptyChairsModel", "isSign", "(I)Z"⟩ ∈ lw_tbl := (mt8 _ (List.mem_of_getElem? (i := 120) rfl))
theorem yv213 : Cond.selects "EmptyChairsModel" ⟨"EmptyChairsModel", "isSign", "(I)Z"⟩ ⟨"EmptyChairsModel", "isSign", "(I)Z"⟩ ∈ lw_tbl := in_sel (q := (⟨"EmptyChairsModel", "isSign", "(I)Z"⟩, 42)) (List.mem_append_right _ (List.mem_append_right _ (List.mem_append_right _ (List.mem_append_right _ (List.mem_append_right _ (List.mem_append_right _ (List.mem_append_left _ (List.mem_of_getElem? (i := 9) rfl))))))))
theorem yok213 : YOk 213 := ⟨yc213, rfl, pn12, ⟨ph12, pv12, pd6⟩, pi12, fun h => absurd h (by decide), fun _ => ⟨yi213, Or.inr yv213⟩⟩
theorem yc214 : Cond.code ⟨"EmptyChairsModel", "spelled", "(IIIIII)J"⟩ prog_14_method_27_code 8 (some .long) ∈ lw_tbl := (mt7 _ (List.mem_of_getElem? (i := 175) rfl))
theorem ys214 : Cond.static ⟨"EmptyChairsModel", "spelled", "(IIIIII)J"⟩ ∈ lw_tbl := (mt7 _ (List.mem_of_getElem? (i := 174) rfl))
theorem yok214 : YOk 214 := ⟨yc214, rfl, pn12, ⟨ph12, pv12, pd18⟩, pi12, fun _ => ys214, fun h => absurd h (by decide)⟩
theorem yc215 : Cond.code ⟨"EmptyChairsModel", "isWord", "(J)Z"⟩ prog_14_method_28_code 3 (some .boolean) ∈ lw_tbl := (mt7 _ (List.mem_of_getElem? (i := 179) rfl))
theorem yi215 : Cond.instanceMethod ⟨"EmptyChairsModel", "isWord", "(J)Z"⟩ ∈ lw_tbl := (mt7 _ (List.mem_of_getElem? (i := 178) rfl))
theorem yv215 : Cond.selects "EmptyChairsModel" ⟨"EmptyChairsModel", "isWord", "(J)Z"⟩ ⟨"EmptyChairsModel", "isWord", "(J)Z"⟩ ∈ lw_tbl := in_sel (q := (⟨"EmptyChairsModel", "isWord", "(J)Z"⟩, 42)) (List.mem_append_right _ (List.mem_append_right _ (List.mem_append_right _ (List.mem_append_left _ (List.mem_of_getElem? (i := 14) rfl)))))
theorem yok215 : YOk 215 := ⟨yc215, rfl, pn12, ⟨ph12, pv12, pd29⟩, pi12, fun h => absurd h (by decide), fun _ => ⟨yi215, Or.inr yv215⟩⟩
theorem yc216 : Cond.code ⟨"EmptyChairsModel", "isFar", "()Z"⟩ prog_14_method_29_code 1 (some .boolean) ∈ lw_tbl := (mt7 _ (List.mem_of_getElem? (i := 172) rfl))
theorem yi216 : Cond.instanceMethod ⟨"EmptyChairsModel", "isFar", "()Z"⟩ ∈ lw_tbl := (mt7 _ (List.mem_of_getElem? (i := 171) rfl))
theorem yv216 : Cond.selects "EmptyChairsModel" ⟨"EmptyChairsModel", "isFar", "()Z"⟩ ⟨"EmptyChairsModel", "isFar", "()Z"⟩ ∈ lw_tbl := in_sel (q := (⟨"EmptyChairsModel", "isFar", "()Z"⟩, 42)) (List.mem_append_right _ (List.mem_append_right _ (List.mem_append_right _ (List.mem_append_left _ (List.mem_of_getElem? (i := 13) rfl)))))
theorem yok216 : YOk 216 := ⟨yc216, rfl, pn12, ⟨ph12, pv12, pd3⟩, pi12, fun h => absurd h (by decide), fun _ => ⟨yi216, Or.inr yv216⟩⟩
theorem yc217 : Cond.code ⟨"EmptyChairsModel", "isBuried", "()Z"⟩ prog_14_method_30_code 1 (some .boolean) ∈ lw_tbl := (mt7 _ (List.mem_of_getElem? (i := 205) rfl))
theorem yi217 : Cond.instanceMethod ⟨"EmptyChairsModel", "isBuried", "()Z"⟩ ∈ lw_tbl := (mt7 _ (List.mem_of_getElem? (i := 204) rfl))
theorem yv217 : Cond.selects "EmptyChairsModel" ⟨"EmptyChairsModel", "isBuried", "()Z"⟩ ⟨"EmptyChairsModel", "isBuried", "()Z"⟩ ∈ lw_tbl := in_sel (q := (⟨"EmptyChairsModel", "isBuried", "()Z"⟩, 42)) (List.mem_append_right _ (List.mem_append_right _ (List.mem_append_right _ (List.mem_append_right _ (List.mem_append_left _ (List.mem_of_getElem? (i := 3) rfl))))))
theorem yok217 : YOk 217 := ⟨yc217, rfl, pn12, ⟨ph12, pv12, pd3⟩, pi12, fun h => absurd h (by decide), fun _ => ⟨yi217, Or.inr yv217⟩⟩
theorem yc218 : Cond.code ⟨"EmptyChairsModel", "isIll", "()Z"⟩ prog_14_method_31_code 1 (some .boolean) ∈ lw_tbl := (mt7 _ (List.mem_of_getElem? (i := 209) rfl))
theorem yi218 : Cond.instanceMethod ⟨"EmptyChairsModel", "isIll", "()Z"⟩ ∈ lw_tbl := (mt7 _ (List.mem_of_getElem? (i := 208) rfl))
theorem yv218 : Cond.selects "EmptyChairsModel" ⟨"EmptyChairsModel", "isIll", "()Z"⟩ ⟨"EmptyChairsModel", "isIll", "()Z"⟩ ∈ lw_tbl := in_sel (q := (⟨"EmptyChairsModel", "isIll", "()Z"⟩, 42)) (List.mem_append_right _ (List.mem_append_right _ (List.mem_append_right _ (List.mem_append_right _ (List.mem_append_left _ (List.mem_of_getElem? (i := 4) rfl))))))
theorem yok218 : YOk 218 := ⟨yc218, rfl, pn12, ⟨ph12, pv12, pd3⟩, pi12, fun h => absurd h (by decide), fun _ => ⟨yi218, Or.inr yv218⟩⟩
theorem yc219 : Cond.code ⟨"EmptyChairsModel", "isBell", "()Z"⟩ prog_14_method_32_code 1 (some .boolean) ∈ lw_tbl := (mt7 _ (List.mem_of_getElem? (i := 213) rfl))
theorem yi219 : Cond.instanceMethod ⟨"EmptyChairsModel", "isBell", "()Z"⟩ ∈ lw_tbl := (mt7 _ (List.mem_of_getElem? (i := 212) rfl))
theorem yv219 : Cond.selects "EmptyChairsModel" ⟨"EmptyChairsModel", "isBell", "()Z"⟩ ⟨"EmptyChairsModel", "isBell", "()Z"⟩ ∈ lw_tbl := in_sel (q := (⟨"EmptyChairsModel", "isBell", "()Z"⟩, 42)) (List.mem_append_right _ (List.mem_append_right _ (List.mem_append_right _ (List.mem_append_right _ (List.mem_append_left _ (List.mem_of_getElem? (i := 5) rfl))))))
theorem yok219 : YOk 219 := ⟨yc219, rfl, pn12, ⟨ph12, pv12, pd3⟩, pi12, fun h => absurd h (by decide), fun _ => ⟨yi219, Or.inr yv219⟩⟩
theorem yc220 : Cond.code ⟨"EmptyChairsModel", "isParty", "()Z"⟩ prog_14_method_33_code 1 (some .boolean) ∈ lw_tbl := (mt7 _ (List.mem_of_getElem? (i := 217) rfl))
theorem yi220 : Cond.instanceMethod ⟨"EmptyChairsModel", "isParty", "()Z"⟩ ∈ lw_tbl := (mt7 _ (List.mem_of_getElem? (i := 216) rfl))
theorem yv220 : Cond.selects "EmptyChairsModel" ⟨"EmptyChairsModel", "isParty", "()Z"⟩ ⟨"EmptyChairsModel", "isParty", "()Z"⟩ ∈ lw_tbl := in_sel (q := (⟨"EmptyChairsModel", "isParty", "()Z"⟩, 42)) (List.mem_append_right _ (List.mem_append_right _ (List.mem_append_right _ (List.mem_append_right _ (List.mem_append_left _ (List.mem_of_getElem? (i := 6) rfl))))))
theorem yok220 : YOk 220 := ⟨yc220, rfl, pn12, ⟨ph12, pv12, pd3⟩, pi12, fun h => absurd h (by decide), fun _ => ⟨yi220, Or.inr yv220⟩⟩
theorem yc221 : Cond.code ⟨"EmptyChairsModel", "isMember", "()Z"⟩ prog_14_method_34_code 1 (some .boolean) ∈ lw_tbl := (mt7 _ (List.mem_of_getElem? (i := 237) rfl))
theorem yi221 : Cond.instanceMethod ⟨"EmptyChairsModel", "isMember", "()Z"⟩ ∈ lw_tbl := (mt7 _ (List.mem_of_getElem? (i := 236) rfl))
theorem yv221 : Cond.selects "EmptyChairsModel" ⟨"EmptyChairsModel", "isMember", "()Z"⟩ ⟨"EmptyChairsModel", "isMember", "()Z"⟩ ∈ lw_tbl := in_sel (q := (⟨"EmptyChairsModel", "isMember", "()Z"⟩, 42)) (List.mem_append_right _ (List.mem_append_right _ (List.mem_append_right _ (List.mem_append_right _ (List.mem_append_left _ (List.mem_of_getElem? (i := 11) rfl))))))
theorem yok221 : YOk 221 := ⟨yc221, rfl, pn12, ⟨ph12, pv12, pd3⟩, pi12, fun h => absurd h (by decide), fun _ => ⟨yi221, Or.inr yv221⟩⟩
theorem yc222 : Cond.code ⟨"EmptyChairsModel", "isOf", "()Z"⟩ prog_14_method_35_code 1 (some .boolean) ∈ lw_tbl := (mt8 _ (List.mem_of_getElem? (i := 1) rfl))
theorem yi222 : Cond.instanceMethod ⟨"EmptyChairsModel", "isOf", "()Z"⟩ ∈ lw_tbl := (mt8 _ (List.mem_of_getElem? (i := 0) rfl))
theorem yv222 : Cond.selects "EmptyChairsModel" ⟨"EmptyChairsModel", "isOf", "()Z"⟩ ⟨"EmptyChairsModel", "isOf", "()Z"⟩ ∈ lw_tbl := in_sel (q := (⟨"EmptyChairsModel", "isOf", "()Z"⟩, 42)) (List.mem_append_right _ (List.mem_append_right _ (List.mem_append_right _ (List.mem_append_right _ (List.mem_append_left _ (List.mem_of_getElem? (i := 12) rfl))))))
theorem yok222 : YOk 222 := ⟨yc222, rfl, pn12, ⟨ph12, pv12, pd3⟩, pi12, fun h => absurd h (by decide), fun _ => ⟨yi222, Or.inr yv222⟩⟩
theorem yc223 : Cond.code ⟨"EmptyChairsModel", "isAt", "()Z"⟩ prog_14_method_36_code 1 (some .boolean) ∈ lw_tbl := (mt8 _ (List.mem_of_getElem? (i := 5) rfl))
theorem yi223 : Cond.instanceMethod ⟨"EmptyChairsModel", "isAt", "()Z"⟩ ∈ lw_tbl := (mt8 _ (List.mem_of_getElem? (i := 4) rfl))
theorem yv223 : Cond.selects "EmptyChairsModel" ⟨"EmptyChairsModel", "isAt", "()Z"⟩ ⟨"EmptyChairsModel", "isAt", "()Z"⟩ ∈ lw_tbl := in_sel (q := (⟨"EmptyChairsModel", "isAt", "()Z"⟩, 42)) (List.mem_append_right _ (List.mem_append_right _ (List.mem_append_right _ (List.mem_append_right _ (List.mem_append_left _ (List.mem_of_getElem? (i := 13) rfl))))))
theorem yok223 : YOk 223 := ⟨yc223, rfl, pn12, ⟨ph12, pv12, pd3⟩, pi12, fun h => absurd h (by decide), fun _ => ⟨yi223, Or.inr yv223⟩⟩
theorem yc224 : Cond.code ⟨"EmptyChairsModel", "isSpeed", "()Z"⟩ prog_14_method_37_code 1 (some .boolean) ∈ lw_tbl := (mt8 _ (List.mem_of_getElem? (i := 9) rfl))
theorem yi224 : Cond.instanceMethod ⟨"EmptyChairsModel", "isSpeed", "()Z"⟩ ∈ lw_tbl := (mt8 _ (List.mem_of_getElem? (i := 8) rfl))
theorem yv224 : Cond.selects "EmptyChairsModel" ⟨"EmptyChairsModel", "isSpeed", "()Z"⟩ ⟨"EmptyChairsModel", "isSpeed", "()Z"⟩ ∈ lw_tbl := in_sel (q := (⟨"EmptyChairsModel", "isSpeed", "()Z"⟩, 42)) (List.mem_append_right _ (List.mem_append_right _ (List.mem_append_right _ (List.mem_append_right _ (List.mem_append_left _ (List.mem_of_getElem? (i := 14) rfl))))))
theorem yok224 : YOk 224 := ⟨yc224, rfl, pn12, ⟨ph12, pv12, pd3⟩, pi12, fun h => absurd h (by decide), fun _ => ⟨yi224, Or.inr yv224⟩⟩
theorem yc225 : Cond.code ⟨"EmptyChairsModel", "isPrice", "()Z"⟩ prog_14_method_38_code 1 (some .boolean) ∈ lw_tbl := (mt8 _ (List.mem_of_getElem? (i := 13) rfl))
theorem yi225 : Cond.instanceMethod ⟨"EmptyChairsModel", "isPrice", "()Z"⟩ ∈ lw_tbl := (mt8 _ (List.mem_of_getElem? (i := 12) rfl))
theorem yv225 : Cond.selects "EmptyChairsModel" ⟨"EmptyChairsModel", "isPrice", "()Z"⟩ ⟨"EmptyChairsModel", "isPrice", "()Z"⟩ ∈ lw_tbl := in_sel (q := (⟨"EmptyChairsModel", "isPrice", "()Z"⟩, 42)) (List.mem_append_right _ (List.mem_append_right _ (List.mem_append_right _ (List.mem_append_right _ (List.mem_append_left _ (List.mem_of_getElem? (i := 15) rfl))))))
theorem yok225 : YOk 225 := ⟨yc225, rfl, pn12, ⟨ph12, pv12, pd3⟩, pi12, fun h => absurd h (by decide), fun _ => ⟨yi225, Or.inr yv225⟩⟩
theorem yc226 : Cond.code ⟨"EmptyChairsModel", "isDead", "()Z"⟩ prog_14_method_39_code 1 (some .boolean) ∈ lw_tbl := (mt8 _ (List.mem_of_getElem? (i := 17) rfl))
theorem yi226 : Cond.instanceMethod ⟨"EmptyChairsModel", "isDead", "()Z"⟩ ∈ lw_tbl := (mt8 _ (List.mem_of_getElem? (i := 16) rfl))
theorem yv226 : Cond.selects "EmptyChairsModel" ⟨"EmptyChairsModel", "isDead", "()Z"⟩ ⟨"EmptyChairsModel", "isDead", "()Z"⟩ ∈ lw_tbl := in_sel (q := (⟨"EmptyChairsModel", "isDead", "()Z"⟩, 42)) (List.mem_append_right _ (List.mem_append_right _ (List.mem_append_right _ (List.mem_append_right _ (List.mem_append_right _ (List.mem_append_left _ (List.mem_of_getElem? (i := 0) rfl)))))))
theorem yok226 : YOk 226 := ⟨yc226, rfl, pn12, ⟨ph12, pv12, pd3⟩, pi12, fun h => absurd h (by decide), fun _ => ⟨yi226, Or.inr yv226⟩⟩
theorem yc227 : Cond.code ⟨"EmptyChairsModel", "isSick", "()Z"⟩ prog_14_method_40_code 1 (some .boolean) ∈ lw_tbl := (mt8 _ (List.mem_of_getElem? (i := 21) rfl))
theorem yi227 : Cond.instanceMethod ⟨"EmptyChairsModel", "isSick", "()Z"⟩ ∈ lw_tbl := (mt8 _ (List.mem_of_getElem? (i := 20) rfl))
theorem yv227 : Cond.selects "EmptyChairsModel" ⟨"EmptyChairsModel", "isSick", "()Z"⟩ ⟨"EmptyChairsModel", "isSick", "()Z"⟩ ∈ lw_tbl := in_sel (q := (⟨"EmptyChairsModel", "isSick", "()Z"⟩, 42)) (List.mem_append_right _ (List.mem_append_right _ (List.mem_append_right _ (List.mem_append_right _ (List.mem_append_right _ (List.mem_append_left _ (List.mem_of_getElem? (i := 1) rfl)))))))
theorem yok227 : YOk 227 := ⟨yc227, rfl, pn12, ⟨ph12, pv12, pd3⟩, pi12, fun h => absurd h (by decide), fun _ => ⟨yi227, Or.inr yv227⟩⟩
theorem yc228 : Cond.code ⟨"EmptyChairsModel", "isHidden", "()Z"⟩ prog_14_method_41_code 1 (some .boolean) ∈ lw_tbl := (mt8 _ (List.mem_of_getElem? (i := 25) rfl))
theorem yi228 : Cond.instanceMethod ⟨"EmptyChairsModel", "isHidden", "()Z"⟩ ∈ lw_tbl := (mt8 _ (List.mem_of_getElem? (i := 24) rfl))
theorem yv228 : Cond.selects "EmptyChairsModel" ⟨"EmptyChairsModel", "isHidden", "()Z"⟩ ⟨"EmptyChairsModel", "isHidden", "()Z"⟩ ∈ lw_tbl := in_sel (q := (⟨"EmptyChairsModel", "isHidden", "()Z"⟩, 42)) (List.mem_append_right _ (List.mem_append_right _ (List.mem_append_right _ (List.mem_append_right _ (List.mem_append_right _ (List.mem_append_left _ (List.mem_of_getElem? (i := 2) rfl)))))))
theorem yok228 : YOk 228 := ⟨yc228, rfl, pn12, ⟨ph12, pv12, pd3⟩, pi12, fun h => absurd h (by decide), fun _ => ⟨yi228, Or.inr yv228⟩⟩
theorem yc229 : Cond.code ⟨"EmptyChairsModel", "isTwins", "()Z"⟩ prog_14_method_42_code 1 (some .boolean) ∈ lw_tbl := (mt8 _ (List.mem_of_getElem? (i := 29) rfl))
theorem yi229 : Cond.instanceMethod ⟨"EmptyChairsModel", "isTwins", "()Z"⟩ ∈ lw_tbl := (mt8 _ (List.mem_of_getElem? (i := 28) rfl))
theorem yv229 : Cond.selects "EmptyChairsModel" ⟨"EmptyChairsModel", "isTwins", "()Z"⟩ ⟨"EmptyChairsModel", "isTwins", "()Z"⟩ ∈ lw_tbl := in_sel (q := (⟨"EmptyChairsModel", "isTwins", "()Z"⟩, 42)) (List.mem_append_right _ (List.mem_append_right _ (List.mem_append_right _ (List.mem_append_right _ (List.mem_append_right _ (List.mem_append_left _ (List.mem_of_getElem? (i := 3) rfl)))))))
theorem yok229 : YOk 229 := ⟨yc229, rfl, pn12, ⟨ph12, pv12, pd3⟩, pi12, fun h => absurd h (by decide), fun _ => ⟨yi229, Or.inr yv229⟩⟩
theorem yc230 : Cond.code ⟨"EmptyChairsModel", "isMotion", "()Z"⟩ prog_14_method_43_code 1 (some .boolean) ∈ lw_tbl := (mt8 _ (List.mem_of_getElem? (i := 33) rfl))
theorem yi230 : Cond.instanceMethod ⟨"EmptyChairsModel", "isMotion", "()Z"⟩ ∈ lw_tbl := (mt8 _ (List.mem_of_getElem? (i := 32) rfl))
theorem yv230 : Cond.selects "EmptyChairsModel" ⟨"EmptyChairsModel", "isMotion", "()Z"⟩ ⟨"EmptyChairsModel", "isMotion", "()Z"⟩ ∈ lw_tbl := in_sel (q := (⟨"EmptyChairsModel", "isMotion", "()Z"⟩, 42)) (List.mem_append_right _ (List.mem_append_right _ (List.mem_append_right _ (List.mem_append_right _ (List.mem_append_right _ (List.mem_append_left _ (List.mem_of_getElem? (i := 4) rfl)))))))
theorem yok230 : YOk 230 := ⟨yc230, rfl, pn12, ⟨ph12, pv12, pd3⟩, pi12, fun h => absurd h (by decide), fun _ => ⟨yi230, Or.inr yv230⟩⟩
theorem yc231 : Cond.code ⟨"EmptyChairsModel", "isFor", "()Z"⟩ prog_14_method_44_code 1 (some .boolean) ∈ lw_tbl := (mt8 _ (List.mem_of_getElem? (i := 37) rfl))
theorem yi231 : Cond.instanceMethod ⟨"EmptyChairsModel", "isFor", "()Z"⟩ ∈ lw_tbl := (mt8 _ (List.mem_of_getElem? (i := 36) rfl))
theorem yv231 : Cond.selects "EmptyChairsModel" ⟨"EmptyChairsModel", "isFor", "()Z"⟩ ⟨"EmptyChairsModel", "isFor", "()Z"⟩ ∈ lw_tbl := in_sel (q := (⟨"EmptyChairsModel", "isFor", "()Z"⟩, 42)) (List.mem_append_right _ (List.mem_append_right _ (List.mem_append_right _ (List.mem_append_right _ (List.mem_append_right _ (List.mem_append_left _ (List.mem_of_getElem? (i := 5) rfl)))))))
theorem yok231 : YOk 231 := ⟨yc231, rfl, pn12, ⟨ph12, pv12, pd3⟩, pi12, fun h => absurd h (by decide), fun _ => ⟨yi231, Or.inr yv231⟩⟩
theorem yc232 : Cond.code ⟨"EmptyChairsModel", "isAgainst", "()Z"⟩ prog_14_method_45_code 1 (some .boolean) ∈ lw_tbl := (mt8 _ (List.mem_of_getElem? (i := 41) rfl))
theorem yi232 : Cond.instanceMethod ⟨"EmptyChairsModel", "isAgainst", "()Z"⟩ ∈ lw_tbl := (mt8 _ (List.mem_of_getElem? (i := 40) rfl))
theorem yv232 : Cond.selects "EmptyChairsModel" ⟨"EmptyChairsModel", "isAgainst", "()Z"⟩ ⟨"EmptyChairsModel", "isAgainst", "()Z"⟩ ∈ lw_tbl := in_sel (q := (⟨"EmptyChairsModel", "isAgainst", "()Z"⟩, 42)) (List.mem_append_right _ (List.mem_append_right _ (List.mem_append_right _ (List.mem_append_right _ (List.mem_append_right _ (List.mem_append_left _ (List.mem_of_getElem? (i := 6) rfl)))))))
theorem yok232 : YOk 232 := ⟨yc232, rfl, pn12, ⟨ph12, pv12, pd3⟩, pi12, fun h => absurd h (by decide), fun _ => ⟨yi232, Or.inr yv232⟩⟩
theorem yc233 : Cond.code ⟨"EmptyChairsModel", "isRoom", "()Z"⟩ prog_14_method_46_code 1 (some .boolean) ∈ lw_tbl := (mt8 _ (List.mem_of_getElem? (i := 46) rfl))
theorem yi233 : Cond.instanceMethod ⟨"EmptyChairsModel", "isRoom", "()Z"⟩ ∈ lw_tbl := (mt8 _ (List.mem_of_getElem? (i := 45) rfl))
theorem yv233 : Cond.selects "EmptyChairsModel" ⟨"EmptyChairsModel", "isRoom", "()Z"⟩ ⟨"EmptyChairsModel", "isRoom", "()Z"⟩ ∈ lw_tbl := in_sel (q := (⟨"EmptyChairsModel", "isRoom", "()Z"⟩, 42)) (List.mem_append_right _ (List.mem_append_right _ (List.mem_append_right _ (List.mem_append_right _ (List.mem_append_right _ (List.mem_append_left _ (List.mem_of_getElem? (i := 7) rfl)))))))
theorem yok233 : YOk 233 := ⟨yc233, rfl, pn12, ⟨ph12, pv12, pd3⟩, pi12, fun h => absurd h (by decide), fun _ => ⟨yi233, Or.inr yv233⟩⟩
theorem yc234 : Cond.code ⟨"EmptyChairsModel", "isTakes", "()Z"⟩ prog_14_method_47_code 1 (some .boolean) ∈ lw_tbl := (mt8 _ (List.mem_of_getElem? (i := 50) rfl))
theorem yi234 : Cond.instanceMethod ⟨"EmptyChairsModel", "isTakes", "()Z"⟩ ∈ lw_tbl := (mt8 _ (List.mem_of_getElem? (i := 49) rfl))
theorem yv234 : Cond.selects "EmptyChairsModel" ⟨"EmptyChairsModel", "isTakes", "()Z"⟩ ⟨"EmptyChairsModel", "isTakes", "()Z"⟩ ∈ lw_tbl := in_sel (q := (⟨"EmptyChairsModel", "isTakes", "()Z"⟩, 42)) (List.mem_append_right _ (List.mem_append_right _ (List.mem_append_right _ (List.mem_append_right _ (List.mem_append_right _ (List.mem_append_left _ (List.mem_of_getElem? (i := 8) rfl)))))))
theorem yok234 : YOk 234 := ⟨yc234, rfl, pn12, ⟨ph12, pv12, pd3⟩, pi12, fun h => absurd h (by decide), fun _ => ⟨yi234, Or.inr yv234⟩⟩
theorem yc235 : Cond.code ⟨"EmptyChairsModel", "isOdds", "()Z"⟩ prog_14_method_48_code 1 (some .boolean) ∈ lw_tbl := (mt8 _ (List.mem_of_getElem? (i := 54) rfl))
theorem yi235 : Cond.instanceMethod ⟨"EmptyChairsModel", "isOdds", "()Z"⟩ ∈ lw_tbl := (mt8 _ (List.mem_of_getElem? (i := 53) rfl))
theorem yv235 : Cond.selects "EmptyChairsModel" ⟨"EmptyChairsModel", "isOdds", "()Z"⟩ ⟨"EmptyChairsModel", "isOdds", "()Z"⟩ ∈ lw_tbl := in_sel (q := (⟨"EmptyChairsModel", "isOdds", "()Z"⟩, 42)) (List.mem_append_right _ (List.mem_append_right _ (List.mem_append_right _ (List.mem_append_right _ (List.mem_append_right _ (List.mem_append_left _ (List.mem_of_getElem? (i := 9) rfl)))))))
theorem yok235 : YOk 235 := ⟨yc235, rfl, pn12, ⟨ph12, pv12, pd3⟩, pi12, fun h => absurd h (by decide), fun _ => ⟨yi235, Or.inr yv235⟩⟩
theorem yc236 : Cond.code ⟨"EmptyChairsModel", "stepWord", "()I"⟩ prog_14_method_49_code 1 (some .int) ∈ lw_tbl := (mt8 _ (List.mem_of_getElem? (i := 58) rfl))
theorem yi236 : Cond.instanceMethod ⟨"EmptyChairsModel", "stepWord", "()I"⟩ ∈ lw_tbl := (mt8 _ (List.mem_of_getElem? (i := 57) rfl))
theorem yv236 : Cond.selects "EmptyChairsModel" ⟨"EmptyChairsModel", "stepWord", "()I"⟩ ⟨"EmptyChairsModel", "stepWord", "()I"⟩ ∈ lw_tbl := in_sel (q := (⟨"EmptyChairsModel", "stepWord", "()I"⟩, 42)) (List.mem_append_right _ (List.mem_append_right _ (List.mem_append_right _ (List.mem_append_right _ (List.mem_append_right _ (List.mem_append_left _ (List.mem_of_getElem? (i := 10) rfl)))))))
theorem yok236 : YOk 236 := ⟨yc236, rfl, pn12, ⟨ph12, pv12, pd0⟩, pi12, fun h => absurd h (by decide), fun _ => ⟨yi236, Or.inr yv236⟩⟩
theorem yc237 : Cond.code ⟨"EmptyChairsModel", "testWord", "()I"⟩ prog_14_method_50_code 1 (some .int) ∈ lw_tbl := (mt8 _ (List.mem_of_getElem? (i := 62) rfl))
theorem yi237 : Cond.instanceMethod ⟨"EmptyChairsModel", "testWord", "()I"⟩ ∈ lw_tbl := (mt8 _ (List.mem_of_getElem? (i := 61) rfl))
theorem yv237 : Cond.selects "EmptyChairsModel" ⟨"EmptyChairsModel", "testWord", "()I"⟩ ⟨"EmptyChairsModel", "testWord", "()I"⟩ ∈ lw_tbl := in_sel (q := (⟨"EmptyChairsModel", "testWord", "()I"⟩, 42)) (List.mem_append_right _ (List.mem_append_right _ (List.mem_append_right _ (List.mem_append_right _ (List.mem_append_right _ (List.mem_append_left _ (List.mem_of_getElem? (i := 11) rfl)))))))
theorem yok237 : YOk 237 := ⟨yc237, rfl, pn12, ⟨ph12, pv12, pd0⟩, pi12, fun h => absurd h (by decide), fun _ => ⟨yi237, Or.inr yv237⟩⟩
theorem yc238 : Cond.code ⟨"EmptyChairsModel", "isEnd", "()Z"⟩ prog_14_method_51_code 1 (some .boolean) ∈ lw_tbl := (mt8 _ (List.mem_of_getElem? (i := 68) rfl))
theorem yi238 : Cond.instanceMethod ⟨"EmptyChairsModel", "isEnd", "()Z"⟩ ∈ lw_tbl := (mt8 _ (List.mem_of_getElem? (i := 67) rfl))
theorem yv238 : Cond.selects "EmptyChairsModel" ⟨"EmptyChairsModel", "isEnd", "()Z"⟩ ⟨"EmptyChairsModel", "isEnd", "()Z"⟩ ∈ lw_tbl := in_sel (q := (⟨"EmptyChairsModel", "isEnd", "()Z"⟩, 42)) (List.mem_append_right _ (List.mem_append_right _ (List.mem_append_right _ (List.mem_append_right _ (List.mem_append_right _ (List.mem_append_left _ (List.mem_of_getElem? (i := 12) rfl)))))))
theorem yok238 : YOk 238 := ⟨yc238, rfl, pn12, ⟨ph12, pv12, pd3⟩, pi12, fun h => absurd h (by decide), fun _ => ⟨yi238, Or.inr yv238⟩⟩
theorem yc239 : Cond.code ⟨"EmptyChairsModel", "isKept", "()Z"⟩ prog_14_method_52_code 1 (some .boolean) ∈ lw_tbl := (mt7 _ (List.mem_of_getElem? (i := 233) rfl))
theorem yi239 : Cond.instanceMethod ⟨"EmptyChairsModel", "isKept", "()Z"⟩ ∈ lw_tbl := (mt7 _ (List.mem_of_getElem? (i := 232) rfl))
theorem yv239 : Cond.selects "EmptyChairsModel" ⟨"EmptyChairsModel", "isKept", "()Z"⟩ ⟨"EmptyChairsModel", "isKept", "()Z"⟩ ∈ lw_tbl := in_sel (q := (⟨"EmptyChairsModel", "isKept", "()Z"⟩, 42)) (List.mem_append_right _ (List.mem_append_right _ (List.mem_append_right _ (List.mem_append_right _ (List.mem_append_left _ (List.mem_of_getElem? (i := 10) rfl))))))
theorem yok239 : YOk 239 := ⟨yc239, rfl, pn12, ⟨ph12, pv12, pd3⟩, pi12, fun h => absurd h (by decide), fun _ => ⟨yi239, Or.inr yv239⟩⟩
theorem yc240 : Cond.code ⟨"EmptyChairsModel", "isName", "()Z"⟩ prog_14_method_53_code 1 (some .boolean) ∈ lw_tbl := (mt7 _ (List.mem_of_getElem? (i := 229) rfl))
theorem yi240 : Cond.instanceMethod ⟨"EmptyChairsModel", "isName", "()Z"⟩ ∈ lw_tbl := (mt7 _ (List.mem_of_getElem? (i := 228) rfl))
theorem yv240 : Cond.selects "EmptyChairsModel" ⟨"EmptyChairsModel", "isName", "()Z"⟩ ⟨"EmptyChairsModel", "isName", "()Z"⟩ ∈ lw_tbl := in_sel (q := (⟨"EmptyChairsModel", "isName", "()Z"⟩, 42)) (List.mem_append_right _ (List.mem_append_right _ (List.mem_append_right _ (List.mem_append_right _ (List.mem_append_left _ (List.mem_of_getElem? (i := 9) rfl))))))
theorem yok240 : YOk 240 := ⟨yc240, rfl, pn12, ⟨ph12, pv12, pd3⟩, pi12, fun h => absurd h (by decide), fun _ => ⟨yi240, Or.inr yv240⟩⟩
theorem yc241 : Cond.code ⟨"EmptyChairsModel", "fail", "(II)V"⟩ prog_14_method_54_code 3 (none) ∈ lw_tbl := (mt7 _ (List.mem_of_getElem? (i := 190) rfl))
theorem yi241 : Cond.instanceMethod ⟨"EmptyChairsModel", "fail", "(II)V"⟩ ∈ lw_tbl := (mt7 _ (List.mem_of_getElem? (i := 189) rfl))
theorem yv241 : Cond.selects "EmptyChairsModel" ⟨"EmptyChairsModel", "fail", "(II)V"⟩ ⟨"EmptyChairsModel", "fail", "(II)V"⟩ ∈ lw_tbl := in_sel (q := (⟨"EmptyChairsModel", "fail", "(II)V"⟩, 42)) (List.mem_append_right _ (List.mem_append_right _ (List.mem_append_right _ (List.mem_append_right _ (List.mem_append_left _ (List.mem_of_getElem? (i := 0) rfl))))))
theorem yok241 : YOk 241 := ⟨yc241, rfl, pn12, ⟨ph12, pv12, pd9⟩, pi12, fun h => absurd h (by decide), fun _ => ⟨yi241, Or.inr yv241⟩⟩
theorem yc242 : Cond.code ⟨"EmptyChairsModel", "amiss", "()V"⟩ prog_14_method_55_code 1 (none) ∈ lw_tbl := (mt7 _ (List.mem_of_getElem? (i := 198) rfl))
theorem yi242 : Cond.instanceMethod ⟨"EmptyChairsModel", "amiss", "()V"⟩ ∈ lw_tbl := (mt7 _ (List.mem_of_getElem? (i := 197) rfl))
theorem yv242 : Cond.selects "EmptyChairsModel" ⟨"EmptyChairsModel", "amiss", "()V"⟩ ⟨"EmptyChairsModel", "amiss", "()V"⟩ ∈ lw_tbl := in_sel (q := (⟨"EmptyChairsModel", "amiss", "()V"⟩, 42)) (List.mem_append_right _ (List.mem_append_right _ (List.mem_append_right _ (List.mem_append_right _ (List.mem_append_left _ (List.mem_of_getElem? (i := 2) rfl))))))
theorem yok242 : YOk 242 := ⟨yc242, rfl, pn12, ⟨ph12, pv12, pd2⟩, pi12, fun h => absurd h (by decide), fun _ => ⟨yi242, Or.inr yv242⟩⟩
theorem yc243 : Cond.code ⟨"EmptyChairsModel", "must", "(Z)V"⟩ prog_14_method_56_code 2 (none) ∈ lw_tbl := (mt8 _ (List.mem_of_getElem? (i := 84) rfl))
theorem yi243 : Cond.instanceMethod ⟨"EmptyChairsModel", "must", "(Z)V"⟩ ∈ lw_tbl := (mt8 _ (List.mem_of_getElem? (i := 83) rfl))
theorem yv243 : Cond.selects "EmptyChairsModel" ⟨"EmptyChairsModel", "must", "(Z)V"⟩ ⟨"EmptyChairsModel", "must", "(Z)V"⟩ ∈ lw_tbl := in_sel (q := (⟨"EmptyChairsModel", "must", "(Z)V"⟩, 42)) (List.mem_append_right _ (List.mem_append_right _ (List.mem_append_right _ (List.mem_append_right _ (List.mem_append_right _ (List.mem_append_right _ (List.mem_append_left _ (List.mem_of_getElem? (i := 0) rfl))))))))
theorem yok243 : YOk 243 := ⟨yc243, rfl, pn12, ⟨ph12, pv12, pd48⟩, pi12, fun h => absurd h (by decide), fun _ => ⟨yi243, Or.inr yv243⟩⟩
theorem yc244 : Cond.code ⟨"EmptyChairsModel", "count", "(II)I"⟩ prog_14_method_57_code 4 (some .int) ∈ lw_tbl := (mt7 _ (List.mem_of_getElem? (i := 194) rfl))
theorem yi244 : Cond.instanceMethod ⟨"EmptyChairsModel", "count", "(II)I"⟩ ∈ lw_tbl := (mt7 _ (List.mem_of_getElem? (i := 193) rfl))
theorem yv244 : Cond.selects "EmptyChairsModel" ⟨"EmptyChairsModel", "count", "(II)I"⟩ ⟨"EmptyChairsModel", "count", "(II)I"⟩ ∈ lw_tbl := in_sel (q := (⟨"EmptyChairsModel", "count", "(II)I"⟩, 42)) (List.mem_append_right _ (List.mem_append_right _ (List.mem_append_right _ (List.mem_append_right _ (List.mem_append_left _ (List.mem_of_getElem? (i := 1) rfl))))))
theorem yok244 : YOk 244 := ⟨yc244, rfl, pn12, ⟨ph12, pv12, pd7⟩, pi12, fun h => absurd h (by decide), fun _ => ⟨yi244, Or.inr yv244⟩⟩
theorem yc245 : Cond.code ⟨"EmptyChairsModel", "behindWord", "(ZII)I"⟩ prog_14_method_58_code 4 (some .int) ∈ lw_tbl := (mt8 _ (List.mem_of_getElem? (i := 97) rfl))
theorem yi245 : Cond.instanceMethod ⟨"EmptyChairsModel", "behindWord", "(ZII)I"⟩ ∈ lw_tbl := (mt8 _ (List.mem_of_getElem? (i := 96) rfl))
theorem yv245 : Cond.selects "EmptyChairsModel" ⟨"EmptyChairsModel", "behindWord", "(ZII)I"⟩ ⟨"EmptyChairsModel", "behindWord", "(ZII)I"⟩ ∈ lw_tbl := in_sel (q := (⟨"EmptyChairsModel", "behindWord", "(ZII)I"⟩, 42)) (List.mem_append_right _ (List.mem_append_right _ (List.mem_append_right _ (List.mem_append_right _ (List.mem_append_right _ (List.mem_append_right _ (List.mem_append_left _ (List.mem_of_getElem? (i := 3) rfl))))))))
theorem yok245 : YOk 245 := ⟨yc245, rfl, pn12, ⟨ph12, pv12, pd50⟩, pi12, fun h => absurd h (by decide), fun _ => ⟨yi245, Or.inr yv245⟩⟩
theorem yc246 : Cond.code ⟨"EmptyChairsModel", "perhaps", "(Z)Z"⟩ prog_14_method_59_code 2 (some .boolean) ∈ lw_tbl := (mt8 _ (List.mem_of_getElem? (i := 101) rfl))
theorem yi246 : Cond.instanceMethod ⟨"EmptyChairsModel", "perhaps", "(Z)Z"⟩ ∈ lw_tbl := (mt8 _ (List.mem_of_getElem? (i := 100) rfl))
theorem yv246 : Cond.selects "EmptyChairsModel" ⟨"EmptyChairsModel", "perhaps", "(Z)Z"⟩ ⟨"EmptyChairsModel", "perhaps", "(Z)Z"⟩ ∈ lw_tbl := in_sel (q := (⟨"EmptyChairsModel", "perhaps", "(Z)Z"⟩, 42)) (List.mem_append_right _ (List.mem_append_right _ (List.mem_append_right _ (List.mem_append_right _ (List.mem_append_right _ (List.mem_append_right _ (List.mem_append_left _ (List.mem_of_getElem? (i := 4) rfl))))))))
theorem yok246 : YOk 246 := ⟨yc246, rfl, pn12, ⟨ph12, pv12, pd49⟩, pi12, fun h => absurd h (by decide), fun _ => ⟨yi246, Or.inr yv246⟩⟩
theorem yc247 : Cond.code ⟨"EmptyChairsModel", "feed", "(IIIII)I"⟩ prog_14_method_60_code 6 (some .int) ∈ lw_tbl := (mt7 _ (List.mem_of_getElem? (i := 128) rfl))
theorem yi247 : Cond.instanceMethod ⟨"EmptyChairsModel", "feed", "(IIIII)I"⟩ ∈ lw_tbl := (mt7 _ (List.mem_of_getElem? (i := 126) rfl))
theorem yv247 : Cond.selects "EmptyChairsModel" ⟨"EmptyChairsModel", "feed", "(IIIII)I"⟩ ⟨"EmptyChairsModel", "feed", "(IIIII)I"⟩ ∈ lw_tbl := (mt7 _ (List.mem_of_getElem? (i := 127) rfl))
theorem yok247 : YOk 247 := ⟨yc247, rfl, pn12, ⟨ph12, pv12, pd16⟩, pi12, fun h => absurd h (by decide), fun _ => ⟨yi247, Or.inr yv247⟩⟩
theorem yc248 : Cond.code ⟨"EmptyChairsModel", "lay", "(I)V"⟩ prog_14_method_61_code 3 (none) ∈ lw_tbl := (mt7 _ (List.mem_of_getElem? (i := 132) rfl))
theorem yi248 : Cond.instanceMethod ⟨"EmptyChairsModel", "lay", "(I)V"⟩ ∈ lw_tbl := (mt7 _ (List.mem_of_getElem? (i := 131) rfl))
theorem yv248 : Cond.selects "EmptyChairsModel" ⟨"EmptyChairsModel", "lay", "(I)V"⟩ ⟨"EmptyChairsModel", "lay", "(I)V"⟩ ∈ lw_tbl := in_sel (q := (⟨"EmptyChairsModel", "lay", "(I)V"⟩, 42)) (List.mem_append_right _ (List.mem_append_right _ (List.mem_append_right _ (List.mem_append_left _ (List.mem_of_getElem? (i := 7) rfl)))))
theorem yok248 : YOk 248 := ⟨yc248, rfl, pn12, ⟨ph12, pv12, pd5⟩, pi12, fun h => absurd h (by decide), fun _ => ⟨yi248, Or.inr yv248⟩⟩
theorem yc249 : Cond.code ⟨"EmptyChairsModel", "starts", "(II)Z"⟩ prog_14_method_62_code 3 (some .boolean) ∈ lw_tbl := (mt7 _ (List.mem_of_getElem? (i := 144) rfl))
theorem yi249 : Cond.instanceMethod ⟨"EmptyChairsModel", "starts", "(II)Z"⟩ ∈ lw_tbl := (mt7 _ (List.mem_of_getElem? (i := 143) rfl))
theorem yv249 : Cond.selects "EmptyChairsModel" ⟨"EmptyChairsModel", "starts", "(II)Z"⟩ ⟨"EmptyChairsModel", "starts", "(II)Z"⟩ ∈ lw_tbl := in_sel (q := (⟨"EmptyChairsModel", "starts", "(II)Z"⟩, 42)) (List.mem_append_right _ (List.mem_append_right _ (List.mem_append_right _ (List.mem_append_left _ (List.mem_of_getElem? (i := 8) rfl)))))
theorem yok249 : YOk 249 := ⟨yc249, rfl, pn12, ⟨ph12, pv12, pd10⟩, pi12, fun h => absurd h (by decide), fun _ => ⟨yi249, Or.inr yv249⟩⟩
theorem yc250 : Cond.code ⟨"EmptyChairsModel", "isWell", "()Z"⟩ prog_14_method_63_code 1 (some .boolean) ∈ lw_tbl := (mt8 _ (List.mem_of_getElem? (i := 125) rfl))
theorem yi250 : Cond.instanceMethod ⟨"EmptyChairsModel", "isWell", "()Z"⟩ ∈ lw_tbl := (mt8 _ (List.mem_of_getElem? (i := 124) rfl))
theorem yv250 : Cond.selects "EmptyChairsModel" ⟨"EmptyChairsModel", "isWell", "()Z"⟩ ⟨"EmptyChairsModel", "isWell", "()Z"⟩ ∈ lw_tbl := in_sel (q := (⟨"EmptyChairsModel", "isWell", "()Z"⟩, 42)) (List.mem_append_right _ (List.mem_append_right _ (List.mem_append_right _ (List.mem_append_right _ (List.mem_append_right _ (List.mem_append_right _ (List.mem_append_left _ (List.mem_of_getElem? (i := 10) rfl))))))))
theorem yok250 : YOk 250 := ⟨yc250, rfl, pn12, ⟨ph12, pv12, pd3⟩, pi12, fun h => absurd h (by decide), fun _ => ⟨yi250, Or.inr yv250⟩⟩
theorem yc251 : Cond.code ⟨"EmptyChairsModel", "fault", "(I)I"⟩ prog_14_method_64_code 2 (some .int) ∈ lw_tbl := (mt7 _ (List.mem_of_getElem? (i := 136) rfl))
theorem yi251 : Cond.instanceMethod ⟨"EmptyChairsModel", "fault", "(I)I"⟩ ∈ lw_tbl := (mt7 _ (List.mem_of_getElem? (i := 134) rfl))
theorem yv251 : Cond.selects "EmptyChairsModel" ⟨"EmptyChairsModel", "fault", "(I)I"⟩ ⟨"EmptyChairsModel", "fault", "(I)I"⟩ ∈ lw_tbl := (mt7 _ (List.mem_of_getElem? (i := 135) rfl))
theorem yok251 : YOk 251 := ⟨yc251, rfl, pn12, ⟨ph12, pv12, pd4⟩, pi12, fun h => absurd h (by decide), fun _ => ⟨yi251, Or.inr yv251⟩⟩
theorem yc252 : Cond.code ⟨"EmptyChairsModel", "empties", "(I)V"⟩ prog_14_method_65_code 4 (none) ∈ lw_tbl := (mt6 _ (List.mem_of_getElem? (i := 193) rfl))
theorem yi252 : Cond.instanceMethod ⟨"EmptyChairsModel", "empties", "(I)V"⟩ ∈ lw_tbl := (mt6 _ (List.mem_of_getElem? (i := 192) rfl))
theorem yv252 : Cond.selects "EmptyChairsModel" ⟨"EmptyChairsModel", "empties", "(I)V"⟩ ⟨"EmptyChairsModel", "empties", "(I)V"⟩ ∈ lw_tbl := in_sel (q := (⟨"EmptyChairsModel", "empties", "(I)V"⟩, 42)) (List.mem_append_right _ (List.mem_append_right _ (List.mem_append_right _ (List.mem_append_left _ (List.mem_of_getElem? (i := 3) rfl)))))
theorem yok252 : YOk 252 := ⟨yc252, rfl, pn12, ⟨ph12, pv12, pd5⟩, pi12, fun h => absurd h (by decide), fun _ => ⟨yi252, Or.inr yv252⟩⟩
theorem yc253 : Cond.code ⟨"EmptyChairsModel", "named", "(II)I"⟩ prog_14_method_66_code 4 (some .int) ∈ lw_tbl := (mt8 _ (List.mem_of_getElem? (i := 76) rfl))
theorem yi253 : Cond.instanceMethod ⟨"EmptyChairsModel", "named", "(II)I"⟩ ∈ lw_tbl := (mt8 _ (List.mem_of_getElem? (i := 75) rfl))
theorem yv253 : Cond.selects "EmptyChairsModel" ⟨"EmptyChairsModel", "named", "(II)I"⟩ ⟨"EmptyChairsModel", "named", "(II)I"⟩ ∈ lw_tbl := in_sel (q := (⟨"EmptyChairsModel", "named", "(II)I"⟩, 42)) (List.mem_append_right _ (List.mem_append_right _ (List.mem_append_right _ (List.mem_append_right _ (List.mem_append_right _ (List.mem_append_left _ (List.mem_of_getElem? (i := 14) rfl)))))))
theorem yok253 : YOk 253 := ⟨yc253, rfl, pn12, ⟨ph12, pv12, pd7⟩, pi12, fun h => absurd h (by decide), fun _ => ⟨yi253, Or.inr yv253⟩⟩
theorem yc254 : Cond.code ⟨"EmptyChairsModel", "isTaken", "()Z"⟩ prog_14_method_67_code 1 (some .boolean) ∈ lw_tbl := (mt8 _ (List.mem_of_getElem? (i := 72) rfl))
theorem yi254 : Cond.instanceMethod ⟨"EmptyChairsModel", "isTaken", "()Z"⟩ ∈ lw_tbl := (mt8 _ (List.mem_of_getElem? (i := 71) rfl))
theorem yv254 : Cond.selects "EmptyChairsModel" ⟨"EmptyChairsModel", "isTaken", "()Z"⟩ ⟨"EmptyChairsModel", "isTaken", "()Z"⟩ ∈ lw_tbl := in_sel (q := (⟨"EmptyChairsModel", "isTaken", "()Z"⟩, 42)) (List.mem_append_right _ (List.mem_append_right _ (List.mem_append_right _ (List.mem_append_right _ (List.mem_append_right _ (List.mem_append_left _ (List.mem_of_getElem? (i := 13) rfl)))))))
theorem yok254 : YOk 254 := ⟨yc254, rfl, pn12, ⟨ph12, pv12, pd3⟩, pi12, fun h => absurd h (by decide), fun _ => ⟨yi254, Or.inr yv254⟩⟩
theorem yc255 : Cond.code ⟨"EmptyChairsModel", "readNew", "(II)I"⟩ prog_14_method_68_code 4 (some .int) ∈ lw_tbl := (mt7 _ (List.mem_of_getElem? (i := 225) rfl))
theorem yi255 : Cond.instanceMethod ⟨"EmptyChairsModel", "readNew", "(II)I"⟩ ∈ lw_tbl := (mt7 _ (List.mem_of_getElem? (i := 224) rfl))
theorem yv255 : Cond.selects "EmptyChairsModel" ⟨"EmptyChairsModel", "readNew", "(II)I"⟩ ⟨"EmptyChairsModel", "readNew", "(II)I"⟩ ∈ lw_tbl := in_sel (q := (⟨"EmptyChairsModel", "readNew", "(II)I"⟩, 42)) (List.mem_append_right _ (List.mem_append_right _ (List.mem_append_right _ (List.mem_append_right _ (List.mem_append_left _ (List.mem_of_getElem? (i := 8) rfl))))))
theorem yok255 : YOk 255 := ⟨yc255, rfl, pn12, ⟨ph12, pv12, pd7⟩, pi12, fun h => absurd h (by decide), fun _ => ⟨yi255, Or.inr yv255⟩⟩
theorem yc256 : Cond.code ⟨"EmptyChairsModel", "told", "(II)I"⟩ prog_14_method_69_code 4 (some .int) ∈ lw_tbl := (mt8 _ (List.mem_of_getElem? (i := 92) rfl))
theorem yi256 : Cond.instanceMethod ⟨"EmptyChairsModel", "told", "(II)I"⟩ ∈ lw_tbl := (mt8 _ (List.mem_of_getElem? (i := 91) rfl))
theorem yv256 : Cond.selects "EmptyChairsModel" ⟨"EmptyChairsModel", "told", "(II)I"⟩ ⟨"EmptyChairsModel", "told", "(II)I"⟩ ∈ lw_tbl := in_sel (q := (⟨"EmptyChairsModel", "told", "(II)I"⟩, 42)) (List.mem_append_right _ (List.mem_append_right _ (List.mem_append_right _ (List.mem_append_right _ (List.mem_append_right _ (List.mem_append_right _ (List.mem_append_left _ (List.mem_of_getElem? (i := 2) rfl))))))))
theorem yok256 : YOk 256 := ⟨yc256, rfl, pn12, ⟨ph12, pv12, pd7⟩, pi12, fun h => absurd h (by decide), fun _ => ⟨yi256, Or.inr yv256⟩⟩
theorem yc257 : Cond.code ⟨"EmptyChairsModel", "readTold", "(II)I"⟩ prog_14_method_70_code 4 (some .int) ∈ lw_tbl := (mt8 _ (List.mem_of_getElem? (i := 88) rfl))
theorem yi257 : Cond.instanceMethod ⟨"EmptyChairsModel", "readTold", "(II)I"⟩ ∈ lw_tbl := (mt8 _ (List.mem_of_getElem? (i := 87) rfl))
theorem yv257 : Cond.selects "EmptyChairsModel" ⟨"EmptyChairsModel", "readTold", "(II)I"⟩ ⟨"EmptyChairsModel", "readTold", "(II)I"⟩ ∈ lw_tbl := in_sel (q := (⟨"EmptyChairsModel", "readTold", "(II)I"⟩, 42)) (List.mem_append_right _ (List.mem_append_right _ (List.mem_append_right _ (List.mem_append_right _ (List.mem_append_right _ (List.mem_append_right _ (List.mem_append_left _ (List.mem_of_getElem? (i := 1) rfl))))))))
theorem yok257 : YOk 257 := ⟨yc257, rfl, pn12, ⟨ph12, pv12, pd7⟩, pi12, fun h => absurd h (by decide), fun _ => ⟨yi257, Or.inr yv257⟩⟩
theorem yc258 : Cond.code ⟨"EmptyChairsModel", "readOnce", "(III)V"⟩ prog_14_method_71_code 4 (none) ∈ lw_tbl := (mt7 _ (List.mem_of_getElem? (i := 183) rfl))
theorem yi258 : Cond.instanceMethod ⟨"EmptyChairsModel", "readOnce", "(III)V"⟩ ∈ lw_tbl := (mt7 _ (List.mem_of_getElem? (i := 182) rfl))
theorem yv258 : Cond.selects "EmptyChairsModel" ⟨"EmptyChairsModel", "readOnce", "(III)V"⟩ ⟨"EmptyChairsModel", "readOnce", "(III)V"⟩ ∈ lw_tbl := in_sel (q := (⟨"EmptyChairsModel", "readOnce", "(III)V"⟩, 42)) (List.mem_append_right _ (List.mem_append_right _ (List.mem_append_right _ (List.mem_append_left _ (List.mem_of_getElem? (i := 15) rfl)))))
theorem yok258 : YOk 258 := ⟨yc258, rfl, pn12, ⟨ph12, pv12, pd12⟩, pi12, fun h => absurd h (by decide), fun _ => ⟨yi258, Or.inr yv258⟩⟩
theorem yc259 : Cond.code ⟨"EmptyChairsModel", "readParty", "()V"⟩ prog_14_method_72_code 1 (none) ∈ lw_tbl := (mt7 _ (List.mem_of_getElem? (i := 221) rfl))
theorem yi259 : Cond.instanceMethod ⟨"EmptyChairsModel", "readParty", "()V"⟩ ∈ lw_tbl := (mt7 _ (List.mem_of_getElem? (i := 220) rfl))
theorem yv259 : Cond.selects "EmptyChairsModel" ⟨"EmptyChairsModel", "readParty", "()V"⟩ ⟨"EmptyChairsModel", "readParty", "()V"⟩ ∈ lw_tbl := in_sel (q := (⟨"EmptyChairsModel", "readParty", "()V"⟩, 42)) (List.mem_append_right _ (List.mem_append_right _ (List.mem_append_right _ (List.mem_append_right _ (List.mem_append_left _ (List.mem_of_getElem? (i := 7) rfl))))))
theorem yok259 : YOk 259 := ⟨yc259, rfl, pn12, ⟨ph12, pv12, pd2⟩, pi12, fun h => absurd h (by decide), fun _ => ⟨yi259, Or.inr yv259⟩⟩
theorem yc260 : Cond.code ⟨"EmptyChairsModel", "readMember", "()V"⟩ prog_14_method_73_code 2 (none) ∈ lw_tbl := (mt8 _ (List.mem_of_getElem? (i := 80) rfl))
theorem yi260 : Cond.instanceMethod ⟨"EmptyChairsModel", "readMember", "()V"⟩ ∈ lw_tbl := (mt8 _ (List.mem_of_getElem? (i := 79) rfl))
theorem yv260 : Cond.selects "EmptyChairsModel" ⟨"EmptyChairsModel", "readMember", "()V"⟩ ⟨"EmptyChairsModel", "readMember", "()V"⟩ ∈ lw_tbl := in_sel (q := (⟨"EmptyChairsModel", "readMember", "()V"⟩, 42)) (List.mem_append_right _ (List.mem_append_right _ (List.mem_append_right _ (List.mem_append_right _ (List.mem_append_right _ (List.mem_append_left _ (List.mem_of_getElem? (i := 15) rfl)))))))
theorem yok260 : YOk 260 := ⟨yc260, rfl, pn12, ⟨ph12, pv12, pd2⟩, pi12, fun h => absurd h (by decide), fun _ => ⟨yi260, Or.inr yv260⟩⟩
theorem yc261 : Cond.code ⟨"EmptyChairsModel", "readTwins", "()V"⟩ prog_14_method_74_code 3 (none) ∈ lw_tbl := (mt8 _ (List.mem_of_getElem? (i := 105) rfl))
theorem yi261 : Cond.instanceMethod ⟨"EmptyChairsModel", "readTwins", "()V"⟩ ∈ lw_tbl := (mt8 _ (List.mem_of_getElem? (i := 104) rfl))
theorem yv261 : Cond.selects "EmptyChairsModel" ⟨"EmptyChairsModel", "readTwins", "()V"⟩ ⟨"EmptyChairsModel", "readTwins", "()V"⟩ ∈ lw_tbl := in_sel (q := (⟨"EmptyChairsModel", "readTwins", "()V"⟩, 42)) (List.mem_append_right _ (List.mem_append_right _ (List.mem_append_right _ (List.mem_append_right _ (List.mem_append_right _ (List.mem_append_right _ (List.mem_append_left _ (List.mem_of_getElem? (i := 5) rfl))))))))
theorem yok261 : YOk 261 := ⟨yc261, rfl, pn12, ⟨ph12, pv12, pd2⟩, pi12, fun h => absurd h (by decide), fun _ => ⟨yi261, Or.inr yv261⟩⟩
theorem yc262 : Cond.code ⟨"EmptyChairsModel", "readParties", "(I)I"⟩ prog_14_method_75_code 4 (some .int) ∈ lw_tbl := (mt8 _ (List.mem_of_getElem? (i := 113) rfl))
theorem yi262 : Cond.instanceMethod ⟨"EmptyChairsModel", "readParties", "(I)I"⟩ ∈ lw_tbl := (mt8 _ (List.mem_of_getElem? (i := 112) rfl))
theorem yv262 : Cond.selects "EmptyChairsModel" ⟨"EmptyChairsModel", "readParties", "(I)I"⟩ ⟨"EmptyChairsModel", "readParties", "(I)I"⟩ ∈ lw_tbl := in_sel (q := (⟨"EmptyChairsModel", "readParties", "(I)I"⟩, 42)) (List.mem_append_right _ (List.mem_append_right _ (List.mem_append_right _ (List.mem_append_right _ (List.mem_append_right _ (List.mem_append_right _ (List.mem_append_left _ (List.mem_of_getElem? (i := 7) rfl))))))))
theorem yok262 : YOk 262 := ⟨yc262, rfl, pn12, ⟨ph12, pv12, pd4⟩, pi12, fun h => absurd h (by decide), fun _ => ⟨yi262, Or.inr yv262⟩⟩
theorem yc263 : Cond.code ⟨"EmptyChairsModel", "readMotion", "()V"⟩ prog_14_method_76_code 4 (none) ∈ lw_tbl := (mt8 _ (List.mem_of_getElem? (i := 109) rfl))
theorem yi263 : Cond.instanceMethod ⟨"EmptyChairsModel", "readMotion", "()V"⟩ ∈ lw_tbl := (mt8 _ (List.mem_of_getElem? (i := 108) rfl))
theorem yv263 : Cond.selects "EmptyChairsModel" ⟨"EmptyChairsModel", "readMotion", "()V"⟩ ⟨"EmptyChairsModel", "readMotion", "()V"⟩ ∈ lw_tbl := in_sel (q := (⟨"EmptyChairsModel", "readMotion", "()V"⟩, 42)) (List.mem_append_right _ (List.mem_append_right _ (List.mem_append_right _ (List.mem_append_right _ (List.mem_append_right _ (List.mem_append_right _ (List.mem_append_left _ (List.mem_of_getElem? (i := 6) rfl))))))))
theorem yok263 : YOk 263 := ⟨yc263, rfl, pn12, ⟨ph12, pv12, pd2⟩, pi12, fun h => absurd h (by decide), fun _ => ⟨yi263, Or.inr yv263⟩⟩
theorem yc264 : Cond.code ⟨"EmptyChairsModel", "readRoom", "()V"⟩ prog_14_method_77_code 2 (none) ∈ lw_tbl := (mt8 _ (List.mem_of_getElem? (i := 117) rfl))
theorem yi264 : Cond.instanceMethod ⟨"EmptyChairsModel", "readRoom", "()V"⟩ ∈ lw_tbl := (mt8 _ (List.mem_of_getElem? (i := 116) rfl))
theorem yv264 : Cond.selects "EmptyChairsModel" ⟨"EmptyChairsModel", "readRoom", "()V"⟩ ⟨"EmptyChairsModel", "readRoom", "()V"⟩ ∈ lw_tbl := in_sel (q := (⟨"EmptyChairsModel", "readRoom", "()V"⟩, 42)) (List.mem_append_right _ (List.mem_append_right _ (List.mem_append_right _ (List.mem_append_right _ (List.mem_append_right _ (List.mem_append_right _ (List.mem_append_left _ (List.mem_of_getElem? (i := 8) rfl))))))))
theorem yok264 : YOk 264 := ⟨yc264, rfl, pn12, ⟨ph12, pv12, pd2⟩, pi12, fun h => absurd h (by decide), fun _ => ⟨yi264, Or.inr yv264⟩⟩
theorem yc265 : Cond.code ⟨"EmptyChairsModel", "readPart", "()V"⟩ prog_14_method_78_code 1 (none) ∈ lw_tbl := (mt7 _ (List.mem_of_getElem? (i := 168) rfl))
theorem yi265 : Cond.instanceMethod ⟨"EmptyChairsModel", "readPart", "()V"⟩ ∈ lw_tbl := (mt7 _ (List.mem_of_getElem? (i := 167) rfl))
theorem yv265 : Cond.selects "EmptyChairsModel" ⟨"EmptyChairsModel", "readPart", "()V"⟩ ⟨"EmptyChairsModel", "readPart", "()V"⟩ ∈ lw_tbl := in_sel (q := (⟨"EmptyChairsModel", "readPart", "()V"⟩, 42)) (List.mem_append_right _ (List.mem_append_right _ (List.mem_append_right _ (List.mem_append_left _ (List.mem_of_getElem? (i := 12) rfl)))))
theorem yok265 : YOk 265 := ⟨yc265, rfl, pn12, ⟨ph12, pv12, pd2⟩, pi12, fun h => absurd h (by decide), fun _ => ⟨yi265, Or.inr yv265⟩⟩
theorem yc266 : Cond.code ⟨"EmptyChairsModel", "assembly", "(I)I"⟩ prog_14_method_79_code 2 (some .int) ∈ lw_tbl := (mt7 _ (List.mem_of_getElem? (i := 140) rfl))
theorem yi266 : Cond.instanceMethod ⟨"EmptyChairsModel", "assembly", "(I)I"⟩ ∈ lw_tbl := (mt7 _ (List.mem_of_getElem? (i := 138) rfl))
theorem yv266 : Cond.selects "EmptyChairsModel" ⟨"EmptyChairsModel", "assembly", "(I)I"⟩ ⟨"EmptyChairsModel", "assembly", "(I)I"⟩ ∈ lw_tbl := (mt7 _ (List.mem_of_getElem? (i := 139) rfl))
theorem yok266 : YOk 266 := ⟨yc266, rfl, pn12, ⟨ph12, pv12, pd4⟩, pi12, fun h => absurd h (by decide), fun _ => ⟨yi266, Or.inr yv266⟩⟩
theorem yc267 : Cond.code ⟨"EmptyChairsModel", "readTest", "(I)V"⟩ prog_14_method_80_code 3 (none) ∈ lw_tbl := (mt8 _ (List.mem_of_getElem? (i := 145) rfl))
theorem yi267 : Cond.instanceMethod ⟨"EmptyChairsModel", "readTest", "(I)V"⟩ ∈ lw_tbl := (mt8 _ (List.mem_of_getElem? (i := 144) rfl))
theorem yv267 : Cond.selects "EmptyChairsModel" ⟨"EmptyChairsModel", "readTest", "(I)V"⟩ ⟨"EmptyChairsModel", "readTest", "(I)V"⟩ ∈ lw_tbl := in_sel (q := (⟨"EmptyChairsModel", "readTest", "(I)V"⟩, 42)) (List.mem_append_right _ (List.mem_append_right _ (List.mem_append_right _ (List.mem_append_right _ (List.mem_append_right _ (List.mem_append_right _ (List.mem_append_left _ (List.mem_of_getElem? (i := 14) rfl))))))))
theorem yok267 : YOk 267 := ⟨yc267, rfl, pn12, ⟨ph12, pv12, pd5⟩, pi12, fun h => absurd h (by decide), fun _ => ⟨yi267, Or.inr yv267⟩⟩
theorem yc268 : Cond.code ⟨"EmptyChairsModel", "readRest", "(I)V"⟩ prog_14_method_81_code 3 (none) ∈ lw_tbl := (mt8 _ (List.mem_of_getElem? (i := 141) rfl))
theorem yi268 : Cond.instanceMethod ⟨"EmptyChairsModel", "readRest", "(I)V"⟩ ∈ lw_tbl := (mt8 _ (List.mem_of_getElem? (i := 140) rfl))
theorem yv268 : Cond.selects "EmptyChairsModel" ⟨"EmptyChairsModel", "readRest", "(I)V"⟩ ⟨"EmptyChairsModel", "readRest", "(I)V"⟩ ∈ lw_tbl := in_sel (q := (⟨"EmptyChairsModel", "readRest", "(I)V"⟩, 42)) (List.mem_append_right _ (List.mem_append_right _ (List.mem_append_right _ (List.mem_append_right _ (List.mem_append_right _ (List.mem_append_right _ (List.mem_append_left _ (List.mem_of_getElem? (i := 13) rfl))))))))
theorem yok268 : YOk 268 := ⟨yc268, rfl, pn12, ⟨ph12, pv12, pd5⟩, pi12, fun h => absurd h (by decide), fun _ => ⟨yi268, Or.inr yv268⟩⟩
theorem yc269 : Cond.code ⟨"EmptyChairsModel", "readStep", "(I)V"⟩ prog_14_method_82_code 5 (none) ∈ lw_tbl := (mt8 _ (List.mem_of_getElem? (i := 137) rfl))
theorem yi269 : Cond.instanceMethod ⟨"EmptyChairsModel", "readStep", "(I)V"⟩ ∈ lw_tbl := (mt8 _ (List.mem_of_getElem? (i := 136) rfl))
theorem yv269 : Cond.selects "EmptyChairsModel" ⟨"EmptyChairsModel", "readStep", "(I)V"⟩ ⟨"EmptyChairsModel", "readStep", "(I)V"⟩ ∈ lw_tbl := in_sel (q := (⟨"EmptyChairsModel", "readStep", "(I)V"⟩, 42)) (List.mem_append_right _ (List.mem_append_right _ (List.mem_append_right _ (List.mem_append_right _ (List.mem_append_right _ (List.mem_append_right _ (List.mem_append_left _ (List.mem_of_getElem? (i := 12) rfl))))))))
theorem yok269 : YOk 269 := ⟨yc269, rfl, pn12, ⟨ph12, pv12, pd5⟩, pi12, fun h => absurd h (by decide), fun _ => ⟨yi269, Or.inr yv269⟩⟩
theorem yc270 : Cond.code ⟨"EmptyChairsModel", "sessions", "(I)I"⟩ prog_14_method_83_code 3 (some .int) ∈ lw_tbl := (mt8 _ (List.mem_of_getElem? (i := 133) rfl))
theorem yi270 : Cond.instanceMethod ⟨"EmptyChairsModel", "sessions", "(I)I"⟩ ∈ lw_tbl := (mt8 _ (List.mem_of_getElem? (i := 131) rfl))
theorem yv270 : Cond.selects "EmptyChairsModel" ⟨"EmptyChairsModel", "sessions", "(I)I"⟩ ⟨"EmptyChairsModel", "sessions", "(I)I"⟩ ∈ lw_tbl := (mt8 _ (List.mem_of_getElem? (i := 132) rfl))
theorem yok270 : YOk 270 := ⟨yc270, rfl, pn12, ⟨ph12, pv12, pd4⟩, pi12, fun h => absurd h (by decide), fun _ => ⟨yi270, Or.inr yv270⟩⟩
theorem yc271 : Cond.code ⟨"EmptyChairsModel", "isPartyAt", "(I)Z"⟩ prog_14_method_84_code 2 (some .boolean) ∈ lw_tbl := (mt8 _ (List.mem_of_getElem? (i := 228) rfl))
theorem yi271 : Cond.instanceMethod ⟨"EmptyChairsModel", "isPartyAt", "(I)Z"⟩ ∈ lw_tbl := (mt8 _ (List.mem_of_getElem? (i := 227) rfl))
theorem yv271 : Cond.selects "EmptyChairsModel" ⟨"EmptyChairsModel", "isPartyAt", "(I)Z"⟩ ⟨"EmptyChairsModel", "isPartyAt", "(I)Z"⟩ ∈ lw_tbl := in_sel (q := (⟨"EmptyChairsModel", "isPartyAt", "(I)Z"⟩, 42)) (List.mem_append_right _ (List.mem_append_right _ (List.mem_append_right _ (List.mem_append_right _ (List.mem_append_right _ (List.mem_append_right _ (List.mem_append_right _ (List.mem_append_left _ (List.mem_of_getElem? (i := 12) rfl)))))))))
theorem yok271 : YOk 271 := ⟨yc271, rfl, pn12, ⟨ph12, pv12, pd6⟩, pi12, fun h => absurd h (by decide), fun _ => ⟨yi271, Or.inr yv271⟩⟩
theorem yc272 : Cond.code ⟨"EmptyChairsModel", "isMemberAt", "(I)Z"⟩ prog_14_method_85_code 2 (some .boolean) ∈ lw_tbl := (mt8 _ (List.mem_of_getElem? (i := 199) rfl))
theorem yi272 : Cond.instanceMethod ⟨"EmptyChairsModel", "isMemberAt", "(I)Z"⟩ ∈ lw_tbl := (mt8 _ (List.mem_of_getElem? (i := 198) rfl))
theorem yv272 : Cond.selects "EmptyChairsModel" ⟨"EmptyChairsModel", "isMemberAt", "(I)Z"⟩ ⟨"EmptyChairsModel", "isMemberAt", "(I)Z"⟩ ∈ lw_tbl := in_sel (q := (⟨"EmptyChairsModel", "isMemberAt", "(I)Z"⟩, 42)) (List.mem_append_right _ (List.mem_append_right _ (List.mem_append_right _ (List.mem_append_right _ (List.mem_append_right _ (List.mem_append_right _ (List.mem_append_right _ (List.mem_append_left _ (List.mem_of_getElem? (i := 9) rfl)))))))))
theorem yok272 : YOk 272 := ⟨yc272, rfl, pn12, ⟨ph12, pv12, pd6⟩, pi12, fun h => absurd h (by decide), fun _ => ⟨yi272, Or.inr yv272⟩⟩
theorem yc273 : Cond.code ⟨"EmptyChairsModel", "isMotionAt", "(I)Z"⟩ prog_14_method_86_code 2 (some .boolean) ∈ lw_tbl := (mt8 _ (List.mem_of_getElem? (i := 208) rfl))
theorem yi273 : Cond.instanceMethod ⟨"EmptyChairsModel", "isMotionAt", "(I)Z"⟩ ∈ lw_tbl := (mt8 _ (List.mem_of_getElem? (i := 207) rfl))
theorem yv273 : Cond.selects "EmptyChairsModel" ⟨"EmptyChairsModel", "isMotionAt", "(I)Z"⟩ ⟨"EmptyChairsModel", "isMotionAt", "(I)Z"⟩ ∈ lw_tbl := in_sel (q := (⟨"EmptyChairsModel", "isMotionAt", "(I)Z"⟩, 42)) (List.mem_append_right _ (List.mem_append_right _ (List.mem_append_right _ (List.mem_append_right _ (List.mem_append_right _ (List.mem_append_right _ (List.mem_append_right _ (List.mem_append_left _ (List.mem_of_getElem? (i := 10) rfl)))))))))
theorem yok273 : YOk 273 := ⟨yc273, rfl, pn12, ⟨ph12, pv12, pd6⟩, pi12, fun h => absurd h (by decide), fun _ => ⟨yi273, Or.inr yv273⟩⟩
theorem yc274 : Cond.code ⟨"EmptyChairsModel", "isRoomAt", "(I)Z"⟩ prog_14_method_87_code 2 (some .boolean) ∈ lw_tbl := (mt8 _ (List.mem_of_getElem? (i := 216) rfl))
theorem yi274 : Cond.instanceMethod ⟨"EmptyChairsModel", "isRoomAt", "(I)Z"⟩ ∈ lw_tbl := (mt8 _ (List.mem_of_getElem? (i := 215) rfl))
theorem yv274 : Cond.selects "EmptyChairsModel" ⟨"EmptyChairsModel", "isRoomAt", "(I)Z"⟩ ⟨"EmptyChairsModel", "isRoomAt", "(I)Z"⟩ ∈ lw_tbl := in_sel (q := (⟨"EmptyChairsModel", "isRoomAt", "(I)Z"⟩, 42)) (List.mem_append_right _ (List.mem_append_right _ (List.mem_append_right _ (List.mem_append_right _ (List.mem_append_right _ (List.mem_append_right _ (List.mem_append_right _ (List.mem_append_left _ (List.mem_of_getElem? (i := 11) rfl)))))))))
theorem yok274 : YOk 274 := ⟨yc274, rfl, pn12, ⟨ph12, pv12, pd6⟩, pi12, fun h => absurd h (by decide), fun _ => ⟨yi274, Or.inr yv274⟩⟩
theorem yc275 : Cond.code ⟨"EmptyChairsModel", "lives", "(I)Z"⟩ prog_14_method_88_code 2 (some .boolean) ∈ lw_tbl := (mt8 _ (List.mem_of_getElem? (i := 170) rfl))
theorem yi275 : Cond.instanceMethod ⟨"EmptyChairsModel", "lives", "(I)Z"⟩ ∈ lw_tbl := (mt8 _ (List.mem_of_getElem? (i := 169) rfl))
theorem yv275 : Cond.selects "EmptyChairsModel" ⟨"EmptyChairsModel", "lives", "(I)Z"⟩ ⟨"EmptyChairsModel", "lives", "(I)Z"⟩ ∈ lw_tbl := in_sel (q := (⟨"EmptyChairsModel", "lives", "(I)Z"⟩, 42)) (List.mem_append_right _ (List.mem_append_right _ (List.mem_append_right _ (List.mem_append_right _ (List.mem_append_right _ (List.mem_append_right _ (List.mem_append_right _ (List.mem_append_left _ (List.mem_of_getElem? (i := 3) rfl)))))))))
theorem yok275 : YOk 275 := ⟨yc275, rfl, pn12, ⟨ph12, pv12, pd6⟩, pi12, fun h => absurd h (by decide), fun _ => ⟨yi275, Or.inr yv275⟩⟩
theorem yc276 : Cond.code ⟨"EmptyChairsModel", "isUp", "(I)Z"⟩ prog_14_method_89_code 2 (some .boolean) ∈ lw_tbl := (mt8 _ (List.mem_of_getElem? (i := 166) rfl))
theorem yi276 : Cond.instanceMethod ⟨"EmptyChairsModel", "isUp", "(I)Z"⟩ ∈ lw_tbl := (mt8 _ (List.mem_of_getElem? (i := 165) rfl))
theorem yv276 : Cond.selects "EmptyChairsModel" ⟨"EmptyChairsModel", "isUp", "(I)Z"⟩ ⟨"EmptyChairsModel", "isUp", "(I)Z"⟩ ∈ lw_tbl := in_sel (q := (⟨"EmptyChairsModel", "isUp", "(I)Z"⟩, 42)) (List.mem_append_right _ (List.mem_append_right _ (List.mem_append_right _ (List.mem_append_right _ (List.mem_append_right _ (List.mem_append_right _ (List.mem_append_right _ (List.mem_append_left _ (List.mem_of_getElem? (i := 2) rfl)))))))))
theorem yok276 : YOk 276 := ⟨yc276, rfl, pn12, ⟨ph12, pv12, pd6⟩, pi12, fun h => absurd h (by decide), fun _ => ⟨yi276, Or.inr yv276⟩⟩
theorem yc277 : Cond.code ⟨"EmptyChairsModel", "isInside", "(I)Z"⟩ prog_14_method_90_code 2 (some .boolean) ∈ lw_tbl := (mt8 _ (List.mem_of_getElem? (i := 162) rfl))
theorem yi277 : Cond.instanceMethod ⟨"EmptyChairsModel", "isInside", "(I)Z"⟩ ∈ lw_tbl := (mt8 _ (List.mem_of_getElem? (i := 161) rfl))
theorem yv277 : Cond.selects "EmptyChairsModel" ⟨"EmptyChairsModel", "isInside", "(I)Z"⟩ ⟨"EmptyChairsModel", "isInside", "(I)Z"⟩ ∈ lw_tbl := in_sel (q := (⟨"EmptyChairsModel", "isInside", "(I)Z"⟩, 42)) (List.mem_append_right _ (List.mem_append_right _ (List.mem_append_right _ (List.mem_append_right _ (List.mem_append_right _ (List.mem_append_right _ (List.mem_append_right _ (List.mem_append_left _ (List.mem_of_getElem? (i := 1) rfl)))))))))
theorem yok277 : YOk 277 := ⟨yc277, rfl, pn12, ⟨ph12, pv12, pd6⟩, pi12, fun h => absurd h (by decide), fun _ => ⟨yi277, Or.inr yv277⟩⟩
theorem yc278 : Cond.code ⟨"EmptyChairsModel", "counted", "(I)I"⟩ prog_14_method_91_code 4 (some .int) ∈ lw_tbl := (mt8 _ (List.mem_of_getElem? (i := 186) rfl))
theorem yi278 : Cond.instanceMethod ⟨"EmptyChairsModel", "counted", "(I)I"⟩ ∈ lw_tbl := (mt8 _ (List.mem_of_getElem? (i := 185) rfl))
theorem yv278 : Cond.selects "EmptyChairsModel" ⟨"EmptyChairsModel", "counted", "(I)I"⟩ ⟨"EmptyChairsModel", "counted", "(I)I"⟩ ∈ lw_tbl := in_sel (q := (⟨"EmptyChairsModel", "counted", "(I)I"⟩, 42)) (List.mem_append_right _ (List.mem_append_right _ (List.mem_append_right _ (List.mem_append_right _ (List.mem_append_right _ (List.mem_append_right _ (List.mem_append_right _ (List.mem_append_left _ (List.mem_of_getElem? (i := 7) rfl)))))))))
theorem yok278 : YOk 278 := ⟨yc278, rfl, pn12, ⟨ph12, pv12, pd4⟩, pi12, fun h => absurd h (by decide), fun _ => ⟨yi278, Or.inr yv278⟩⟩
theorem yc279 : Cond.code ⟨"EmptyChairsModel", "powerOfAll", "(I)I"⟩ prog_14_method_92_code 4 (some .int) ∈ lw_tbl := (mt8 _ (List.mem_of_getElem? (i := 182) rfl))
theorem yi279 : Cond.instanceMethod ⟨"EmptyChairsModel", "powerOfAll", "(I)I"⟩ ∈ lw_tbl := (mt8 _ (List.mem_of_getElem? (i := 181) rfl))
theorem yv279 : Cond.selects "EmptyChairsModel" ⟨"EmptyChairsModel", "powerOfAll", "(I)I"⟩ ⟨"EmptyChairsModel", "powerOfAll", "(I)I"⟩ ∈ lw_tbl := in_sel (q := (⟨"EmptyChairsModel", "powerOfAll", "(I)I"⟩, 42)) (List.mem_append_right _ (List.mem_append_right _ (List.mem_append_right _ (List.mem_append_right _ (List.mem_append_right _ (List.mem_append_right _ (List.mem_append_right _ (List.mem_append_left _ (List.mem_of_getElem? (i := 6) rfl)))))))))
theorem yok279 : YOk 279 := ⟨yc279, rfl, pn12, ⟨ph12, pv12, pd4⟩, pi12, fun h => absurd h (by decide), fun _ => ⟨yi279, Or.inr yv279⟩⟩
theorem yc280 : Cond.code ⟨"EmptyChairsModel", "allParties", "()I"⟩ prog_14_method_93_code 1 (some .int) ∈ lw_tbl := (mt8 _ (List.mem_of_getElem? (i := 191) rfl))
theorem yi280 : Cond.instanceMethod ⟨"EmptyChairsModel", "allParties", "()I"⟩ ∈ lw_tbl := (mt8 _ (List.mem_of_getElem? (i := 190) rfl))
theorem yv280 : Cond.selects "EmptyChairsModel" ⟨"EmptyChairsModel", "allParties", "()I"⟩ ⟨"EmptyChairsModel", "allParties", "()I"⟩ ∈ lw_tbl := in_sel (q := (⟨"EmptyChairsModel", "allParties", "()I"⟩, 42)) (List.mem_append_right _ (List.mem_append_right _ (List.mem_append_right _ (List.mem_append_right _ (List.mem_append_right _ (List.mem_append_right _ (List.mem_append_right _ (List.mem_append_left _ (List.mem_of_getElem? (i := 8) rfl)))))))))
theorem yok280 : YOk 280 := ⟨yc280, rfl, pn12, ⟨ph12, pv12, pd0⟩, pi12, fun h => absurd h (by decide), fun _ => ⟨yi280, Or.inr yv280⟩⟩
theorem yc281 : Cond.code ⟨"EmptyChairsModel", "governing", "()I"⟩ prog_14_method_94_code 5 (some .int) ∈ lw_tbl := (mt9 _ (List.mem_of_getElem? (i := 4) rfl))
theorem yi281 : Cond.instanceMethod ⟨"EmptyChairsModel", "governing", "()I"⟩ ∈ lw_tbl := (mt9 _ (List.mem_of_getElem? (i := 3) rfl))
theorem yv281 : Cond.selects "EmptyChairsModel" ⟨"EmptyChairsModel", "governing", "()I"⟩ ⟨"EmptyChairsModel", "governing", "()I"⟩ ∈ lw_tbl := in_sel (q := (⟨"EmptyChairsModel", "governing", "()I"⟩, 42)) (List.mem_append_right _ (List.mem_append_right _ (List.mem_append_right _ (List.mem_append_right _ (List.mem_append_right _ (List.mem_append_right _ (List.mem_append_right _ (List.mem_append_left _ (List.mem_of_getElem? (i := 14) rfl)))))))))
theorem yok281 : YOk 281 := ⟨yc281, rfl, pn12, ⟨ph12, pv12, pd0⟩, pi12, fun h => absurd h (by decide), fun _ => ⟨yi281, Or.inr yv281⟩⟩
theorem yc282 : Cond.code ⟨"EmptyChairsModel", "marginOf", "(I)I"⟩ prog_14_method_95_code 2 (some .int) ∈ lw_tbl := (mt8 _ (List.mem_of_getElem? (i := 178) rfl))
theorem yi282 : Cond.instanceMethod ⟨"EmptyChairsModel", "marginOf", "(I)I"⟩ ∈ lw_tbl := (mt8 _ (List.mem_of_getElem? (i := 177) rfl))
theorem yv282 : Cond.selects "EmptyChairsModel" ⟨"EmptyChairsModel", "marginOf", "(I)I"⟩ ⟨"EmptyChairsModel", "marginOf", "(I)I"⟩ ∈ lw_tbl := in_sel (q := (⟨"EmptyChairsModel", "marginOf", "(I)I"⟩, 42)) (List.mem_append_right _ (List.mem_append_right _ (List.mem_append_right _ (List.mem_append_right _ (List.mem_append_right _ (List.mem_append_right _ (List.mem_append_right _ (List.mem_append_left _ (List.mem_of_getElem? (i := 5) rfl)))))))))
theorem yok282 : YOk 282 := ⟨yc282, rfl, pn12, ⟨ph12, pv12, pd4⟩, pi12, fun h => absurd h (by decide), fun _ => ⟨yi282, Or.inr yv282⟩⟩
theorem yc283 : Cond.code ⟨"EmptyChairsModel", "carried", "()I"⟩ prog_14_method_96_code 3 (some .int) ∈ lw_tbl := (mt8 _ (List.mem_of_getElem? (i := 174) rfl))
theorem yi283 : Cond.instanceMethod ⟨"EmptyChairsModel", "carried", "()I"⟩ ∈ lw_tbl := (mt8 _ (List.mem_of_getElem? (i := 173) rfl))
theorem yv283 : Cond.selects "EmptyChairsModel" ⟨"EmptyChairsModel", "carried", "()I"⟩ ⟨"EmptyChairsModel", "carried", "()I"⟩ ∈ lw_tbl := in_sel (q := (⟨"EmptyChairsModel", "carried", "()I"⟩, 42)) (List.mem_append_right _ (List.mem_append_right _ (List.mem_append_right _ (List.mem_append_right _ (List.mem_append_right _ (List.mem_append_right _ (List.mem_append_right _ (List.mem_append_left _ (List.mem_of_getElem? (i := 4) rfl)))))))))
theorem yok283 : YOk 283 := ⟨yc283, rfl, pn12, ⟨ph12, pv12, pd0⟩, pi12, fun h => absurd h (by decide), fun _ => ⟨yi283, Or.inr yv283⟩⟩
theorem yc284 : Cond.code ⟨"EmptyChairsModel", "membersThat", "(I)I"⟩ prog_14_method_97_code 4 (some .int) ∈ lw_tbl := (mt8 _ (List.mem_of_getElem? (i := 158) rfl))
theorem yi284 : Cond.instanceMethod ⟨"EmptyChairsModel", "membersThat", "(I)I"⟩ ∈ lw_tbl := (mt8 _ (List.mem_of_getElem? (i := 157) rfl))
theorem yv284 : Cond.selects "EmptyChairsModel" ⟨"EmptyChairsModel", "membersThat", "(I)I"⟩ ⟨"EmptyChairsModel", "membersThat", "(I)I"⟩ ∈ lw_tbl := in_sel (q := (⟨"EmptyChairsModel", "membersThat", "(I)I"⟩, 42)) (List.mem_append_right _ (List.mem_append_right _ (List.mem_append_right _ (List.mem_append_right _ (List.mem_append_right _ (List.mem_append_right _ (List.mem_append_right _ (List.mem_append_left _ (List.mem_of_getElem? (i := 0) rfl)))))))))
theorem yok284 : YOk 284 := ⟨yc284, rfl, pn12, ⟨ph12, pv12, pd4⟩, pi12, fun h => absurd h (by decide), fun _ => ⟨yi284, Or.inr yv284⟩⟩
theorem yc285 : Cond.code ⟨"EmptyChairsModel", "many", "(I)I"⟩ prog_14_method_98_code 2 (some .int) ∈ lw_tbl := (mt8 _ (List.mem_of_getElem? (i := 149) rfl))
theorem yi285 : Cond.instanceMethod ⟨"EmptyChairsModel", "many", "(I)I"⟩ ∈ lw_tbl := (mt8 _ (List.mem_of_getElem? (i := 147) rfl))
theorem yv285 : Cond.selects "EmptyChairsModel" ⟨"EmptyChairsModel", "many", "(I)I"⟩ ⟨"EmptyChairsModel", "many", "(I)I"⟩ ∈ lw_tbl := (mt8 _ (List.mem_of_getElem? (i := 148) rfl))
theorem yok285 : YOk 285 := ⟨yc285, rfl, pn12, ⟨ph12, pv12, pd4⟩, pi12, fun h => absurd h (by decide), fun _ => ⟨yi285, Or.inr yv285⟩⟩
theorem yc286 : Cond.code ⟨"EmptyChairsModel", "member", "(II)I"⟩ prog_14_method_99_code 4 (some .int) ∈ lw_tbl := (mt8 _ (List.mem_of_getElem? (i := 195) rfl))
theorem yi286 : Cond.instanceMethod ⟨"EmptyChairsModel", "member", "(II)I"⟩ ∈ lw_tbl := (mt8 _ (List.mem_of_getElem? (i := 193) rfl))
theorem yv286 : Cond.selects "EmptyChairsModel" ⟨"EmptyChairsModel", "member", "(II)I"⟩ ⟨"EmptyChairsModel", "member", "(II)I"⟩ ∈ lw_tbl := (mt8 _ (List.mem_of_getElem? (i := 194) rfl))
theorem yok286 : YOk 286 := ⟨yc286, rfl, pn12, ⟨ph12, pv12, pd7⟩, pi12, fun h => absurd h (by decide), fun _ => ⟨yi286, Or.inr yv286⟩⟩
theorem yc287 : Cond.code ⟨"EmptyChairsModel", "motion", "(II)I"⟩ prog_14_method_100_code 3 (some .int) ∈ lw_tbl := (mt8 _ (List.mem_of_getElem? (i := 204) rfl))
theorem yi287 : Cond.instanceMethod ⟨"EmptyChairsModel", "motion", "(II)I"⟩ ∈ lw_tbl := (mt8 _ (List.mem_of_getElem? (i := 202) rfl))
theorem yv287 : Cond.selects "EmptyChairsModel" ⟨"EmptyChairsModel", "motion", "(II)I"⟩ ⟨"EmptyChairsModel", "motion", "(II)I"⟩ ∈ lw_tbl := (mt8 _ (List.mem_of_getElem? (i := 203) rfl))
theorem yok287 : YOk 287 := ⟨yc287, rfl, pn12, ⟨ph12, pv12, pd7⟩, pi12, fun h => absurd h (by decide), fun _ => ⟨yi287, Or.inr yv287⟩⟩
theorem yc288 : Cond.code ⟨"EmptyChairsModel", "room", "(II)I"⟩ prog_14_method_101_code 3 (some .int) ∈ lw_tbl := (mt8 _ (List.mem_of_getElem? (i := 212) rfl))
theorem yi288 : Cond.instanceMethod ⟨"EmptyChairsModel", "room", "(II)I"⟩ ∈ lw_tbl := (mt8 _ (List.mem_of_getElem? (i := 210) rfl))
theorem yv288 : Cond.selects "EmptyChairsModel" ⟨"EmptyChairsModel", "room", "(II)I"⟩ ⟨"EmptyChairsModel", "room", "(II)I"⟩ ∈ lw_tbl := (mt8 _ (List.mem_of_getElem? (i := 211) rfl))
theorem yok288 : YOk 288 := ⟨yc288, rfl, pn12, ⟨ph12, pv12, pd7⟩, pi12, fun h => absurd h (by decide), fun _ => ⟨yi288, Or.inr yv288⟩⟩
theorem yc289 : Cond.code ⟨"EmptyChairsModel", "counts", "(I)I"⟩ prog_14_method_102_code 2 (some .int) ∈ lw_tbl := (mt8 _ (List.mem_of_getElem? (i := 220) rfl))
theorem yi289 : Cond.instanceMethod ⟨"EmptyChairsModel", "counts", "(I)I"⟩ ∈ lw_tbl := (mt8 _ (List.mem_of_getElem? (i := 218) rfl))
theorem yv289 : Cond.selects "EmptyChairsModel" ⟨"EmptyChairsModel", "counts", "(I)I"⟩ ⟨"EmptyChairsModel", "counts", "(I)I"⟩ ∈ lw_tbl := (mt8 _ (List.mem_of_getElem? (i := 219) rfl))
theorem yok289 : YOk 289 := ⟨yc289, rfl, pn12, ⟨ph12, pv12, pd4⟩, pi12, fun h => absurd h (by decide), fun _ => ⟨yi289, Or.inr yv289⟩⟩
theorem yc290 : Cond.code ⟨"EmptyChairsModel", "power", "(I)I"⟩ prog_14_method_103_code 2 (some .int) ∈ lw_tbl := (mt8 _ (List.mem_of_getElem? (i := 224) rfl))
theorem yi290 : Cond.instanceMethod ⟨"EmptyChairsModel", "power", "(I)I"⟩ ∈ lw_tbl := (mt8 _ (List.mem_of_getElem? (i := 222) rfl))
theorem yv290 : Cond.selects "EmptyChairsModel" ⟨"EmptyChairsModel", "power", "(I)I"⟩ ⟨"EmptyChairsModel", "power", "(I)I"⟩ ∈ lw_tbl := (mt8 _ (List.mem_of_getElem? (i := 223) rfl))
theorem yok290 : YOk 290 := ⟨yc290, rfl, pn12, ⟨ph12, pv12, pd4⟩, pi12, fun h => absurd h (by decide), fun _ => ⟨yi290, Or.inr yv290⟩⟩
theorem yc291 : Cond.code ⟨"EmptyChairsModel", "areParties", "(I)Z"⟩ prog_14_method_104_code 2 (some .boolean) ∈ lw_tbl := (mt8 _ (List.mem_of_getElem? (i := 236) rfl))
theorem yi291 : Cond.instanceMethod ⟨"EmptyChairsModel", "areParties", "(I)Z"⟩ ∈ lw_tbl := (mt8 _ (List.mem_of_getElem? (i := 235) rfl))
theorem yv291 : Cond.selects "EmptyChairsModel" ⟨"EmptyChairsModel", "areParties", "(I)Z"⟩ ⟨"EmptyChairsModel", "areParties", "(I)Z"⟩ ∈ lw_tbl := in_sel (q := (⟨"EmptyChairsModel", "areParties", "(I)Z"⟩, 42)) (List.mem_append_right _ (List.mem_append_right _ (List.mem_append_right _ (List.mem_append_right _ (List.mem_append_right _ (List.mem_append_right _ (List.mem_append_right _ (List.mem_append_left _ (List.mem_of_getElem? (i := 13) rfl)))))))))
theorem yok291 : YOk 291 := ⟨yc291, rfl, pn12, ⟨ph12, pv12, pd6⟩, pi12, fun h => absurd h (by decide), fun _ => ⟨yi291, Or.inr yv291⟩⟩
theorem yc292 : Cond.code ⟨"EmptyChairsModel", "powerOf", "(I)I"⟩ prog_14_method_105_code 2 (some .int) ∈ lw_tbl := (mt8 _ (List.mem_of_getElem? (i := 232) rfl))
theorem yi292 : Cond.instanceMethod ⟨"EmptyChairsModel", "powerOf", "(I)I"⟩ ∈ lw_tbl := (mt8 _ (List.mem_of_getElem? (i := 230) rfl))
theorem yv292 : Cond.selects "EmptyChairsModel" ⟨"EmptyChairsModel", "powerOf", "(I)I"⟩ ⟨"EmptyChairsModel", "powerOf", "(I)I"⟩ ∈ lw_tbl := (mt8 _ (List.mem_of_getElem? (i := 231) rfl))
theorem yok292 : YOk 292 := ⟨yc292, rfl, pn12, ⟨ph12, pv12, pd4⟩, pi12, fun h => absurd h (by decide), fun _ => ⟨yi292, Or.inr yv292⟩⟩
theorem yc293 : Cond.code ⟨"EmptyChairsModel", "governs", "()I"⟩ prog_14_method_106_code 2 (some .int) ∈ lw_tbl := (mt9 _ (List.mem_of_getElem? (i := 0) rfl))
theorem yi293 : Cond.instanceMethod ⟨"EmptyChairsModel", "governs", "()I"⟩ ∈ lw_tbl := (mt8 _ (List.mem_of_getElem? (i := 238) rfl))
theorem yv293 : Cond.selects "EmptyChairsModel" ⟨"EmptyChairsModel", "governs", "()I"⟩ ⟨"EmptyChairsModel", "governs", "()I"⟩ ∈ lw_tbl := (mt8 _ (List.mem_of_getElem? (i := 239) rfl))
theorem yok293 : YOk 293 := ⟨yc293, rfl, pn12, ⟨ph12, pv12, pd0⟩, pi12, fun h => absurd h (by decide), fun _ => ⟨yi293, Or.inr yv293⟩⟩
theorem yc294 : Cond.code ⟨"EmptyChairsModel", "bells", "(I)I"⟩ prog_14_method_107_code 2 (some .int) ∈ lw_tbl := (mt9 _ (List.mem_of_getElem? (i := 8) rfl))
theorem yi294 : Cond.instanceMethod ⟨"EmptyChairsModel", "bells", "(I)I"⟩ ∈ lw_tbl := (mt9 _ (List.mem_of_getElem? (i := 6) rfl))
theorem yv294 : Cond.selects "EmptyChairsModel" ⟨"EmptyChairsModel", "bells", "(I)I"⟩ ⟨"EmptyChairsModel", "bells", "(I)I"⟩ ∈ lw_tbl := (mt9 _ (List.mem_of_getElem? (i := 7) rfl))
theorem yok294 : YOk 294 := ⟨yc294, rfl, pn12, ⟨ph12, pv12, pd4⟩, pi12, fun h => absurd h (by decide), fun _ => ⟨yi294, Or.inr yv294⟩⟩
theorem yc295 : Cond.code ⟨"EmptyChairsModel", "margin", "(I)I"⟩ prog_14_method_108_code 2 (some .int) ∈ lw_tbl := (mt9 _ (List.mem_of_getElem? (i := 12) rfl))
theorem yi295 : Cond.instanceMethod ⟨"EmptyChairsModel", "margin", "(I)I"⟩ ∈ lw_tbl := (mt9 _ (List.mem_of_getElem? (i := 10) rfl))
theorem yv295 : Cond.selects "EmptyChairsModel" ⟨"EmptyChairsModel", "margin", "(I)I"⟩ ⟨"EmptyChairsModel", "margin", "(I)I"⟩ ∈ lw_tbl := (mt9 _ (List.mem_of_getElem? (i := 11) rfl))
theorem yok295 : YOk 295 := ⟨yc295, rfl, pn12, ⟨ph12, pv12, pd4⟩, pi12, fun h => absurd h (by decide), fun _ => ⟨yi295, Or.inr yv295⟩⟩
theorem yc296 : Cond.code ⟨"EmptyChairsModel", "copyCounts", "(I)I"⟩ prog_14_method_109_code 3 (some .int) ∈ lw_tbl := (mt9 _ (List.mem_of_getElem? (i := 16) rfl))
theorem yi296 : Cond.instanceMethod ⟨"EmptyChairsModel", "copyCounts", "(I)I"⟩ ∈ lw_tbl := (mt9 _ (List.mem_of_getElem? (i := 14) rfl))
theorem yv296 : Cond.selects "EmptyChairsModel" ⟨"EmptyChairsModel", "copyCounts", "(I)I"⟩ ⟨"EmptyChairsModel", "copyCounts", "(I)I"⟩ ∈ lw_tbl := (mt9 _ (List.mem_of_getElem? (i := 15) rfl))
theorem yok296 : YOk 296 := ⟨yc296, rfl, pn12, ⟨ph12, pv12, pd4⟩, pi12, fun h => absurd h (by decide), fun _ => ⟨yi296, Or.inr yv296⟩⟩
theorem yc297 : Cond.code ⟨"EmptyChairsModel", "walks", "(I)V"⟩ prog_14_method_110_code 3 (none) ∈ lw_tbl := (mt9 _ (List.mem_of_getElem? (i := 34) rfl))
theorem yi297 : Cond.instanceMethod ⟨"EmptyChairsModel", "walks", "(I)V"⟩ ∈ lw_tbl := (mt9 _ (List.mem_of_getElem? (i := 33) rfl))
theorem yv297 : Cond.selects "EmptyChairsModel" ⟨"EmptyChairsModel", "walks", "(I)V"⟩ ⟨"EmptyChairsModel", "walks", "(I)V"⟩ ∈ lw_tbl := in_sel (q := (⟨"EmptyChairsModel", "walks", "(I)V"⟩, 42)) (List.mem_append_right _ (List.mem_append_right _ (List.mem_append_right _ (List.mem_append_right _ (List.mem_append_right _ (List.mem_append_right _ (List.mem_append_right _ (List.mem_append_right _ (List.mem_append_left _ (List.mem_of_getElem? (i := 1) rfl))))))))))
theorem yok297 : YOk 297 := ⟨yc297, rfl, pn12, ⟨ph12, pv12, pd5⟩, pi12, fun h => absurd h (by decide), fun _ => ⟨yi297, Or.inr yv297⟩⟩
theorem yc298 : Cond.code ⟨"EmptyChairsModel", "goesMinute", "()Z"⟩ prog_14_method_111_code 2 (some .boolean) ∈ lw_tbl := (mt9 _ (List.mem_of_getElem? (i := 30) rfl))
theorem yi298 : Cond.instanceMethod ⟨"EmptyChairsModel", "goesMinute", "()Z"⟩ ∈ lw_tbl := (mt9 _ (List.mem_of_getElem? (i := 29) rfl))
theorem yv298 : Cond.selects "EmptyChairsModel" ⟨"EmptyChairsModel", "goesMinute", "()Z"⟩ ⟨"EmptyChairsModel", "goesMinute", "()Z"⟩ ∈ lw_tbl := in_sel (q := (⟨"EmptyChairsModel", "goesMinute", "()Z"⟩, 42)) (List.mem_append_right _ (List.mem_append_right _ (List.mem_append_right _ (List.mem_append_right _ (List.mem_append_right _ (List.mem_append_right _ (List.mem_append_right _ (List.mem_append_right _ (List.mem_append_left _ (List.mem_of_getElem? (i := 0) rfl))))))))))
theorem yok298 : YOk 298 := ⟨yc298, rfl, pn12, ⟨ph12, pv12, pd3⟩, pi12, fun h => absurd h (by decide), fun _ => ⟨yi298, Or.inr yv298⟩⟩
theorem yc299 : Cond.code ⟨"EmptyChairsModel", "minute", "(I)I"⟩ prog_14_method_112_code 3 (some .int) ∈ lw_tbl := (mt9 _ (List.mem_of_getElem? (i := 25) rfl))
theorem yi299 : Cond.instanceMethod ⟨"EmptyChairsModel", "minute", "(I)I"⟩ ∈ lw_tbl := (mt9 _ (List.mem_of_getElem? (i := 23) rfl))
theorem yv299 : Cond.selects "EmptyChairsModel" ⟨"EmptyChairsModel", "minute", "(I)I"⟩ ⟨"EmptyChairsModel", "minute", "(I)I"⟩ ∈ lw_tbl := (mt9 _ (List.mem_of_getElem? (i := 24) rfl))
theorem yok299 : YOk 299 := ⟨yc299, rfl, pn12, ⟨ph12, pv12, pd4⟩, pi12, fun h => absurd h (by decide), fun _ => ⟨yi299, Or.inr yv299⟩⟩
theorem yc300 : Cond.code ⟨"EmptyChairsModel", "walk", "(II)Z"⟩ prog_14_method_113_code 3 (some .boolean) ∈ lw_tbl := (mt9 _ (List.mem_of_getElem? (i := 38) rfl))
theorem yi300 : Cond.instanceMethod ⟨"EmptyChairsModel", "walk", "(II)Z"⟩ ∈ lw_tbl := (mt9 _ (List.mem_of_getElem? (i := 36) rfl))
theorem yv300 : Cond.selects "EmptyChairsModel" ⟨"EmptyChairsModel", "walk", "(II)Z"⟩ ⟨"EmptyChairsModel", "walk", "(II)Z"⟩ ∈ lw_tbl := (mt9 _ (List.mem_of_getElem? (i := 37) rfl))
theorem yok300 : YOk 300 := ⟨yc300, rfl, pn12, ⟨ph12, pv12, pd10⟩, pi12, fun h => absurd h (by decide), fun _ => ⟨yi300, Or.inr yv300⟩⟩
theorem yc301 : Cond.code ⟨"EmptyChairsModel", "dies", "(I)V"⟩ prog_14_method_114_code 2 (none) ∈ lw_tbl := (mt9 _ (List.mem_of_getElem? (i := 47) rfl))
theorem yi301 : Cond.instanceMethod ⟨"EmptyChairsModel", "dies", "(I)V"⟩ ∈ lw_tbl := (mt9 _ (List.mem_of_getElem? (i := 46) rfl))
theorem yv301 : Cond.selects "EmptyChairsModel" ⟨"EmptyChairsModel", "dies", "(I)V"⟩ ⟨"EmptyChairsModel", "dies", "(I)V"⟩ ∈ lw_tbl := in_sel (q := (⟨"EmptyChairsModel", "dies", "(I)V"⟩, 42)) (List.mem_append_right _ (List.mem_append_right _ (List.mem_append_right _ (List.mem_append_right _ (List.mem_append_right _ (List.mem_append_right _ (List.mem_append_right _ (List.mem_append_right _ (List.mem_append_left _ (List.mem_of_getElem? (i := 2) rfl))))))))))
theorem yok301 : YOk 301 := ⟨yc301, rfl, pn12, ⟨ph12, pv12, pd5⟩, pi12, fun h => absurd h (by decide), fun _ => ⟨yi301, Or.inr yv301⟩⟩
theorem yc302 : Cond.code ⟨"EmptyChairsModel", "die", "(I)I"⟩ prog_14_method_115_code 2 (some .int) ∈ lw_tbl := (mt9 _ (List.mem_of_getElem? (i := 43) rfl))
theorem yi302 : Cond.instanceMethod ⟨"EmptyChairsModel", "die", "(I)I"⟩ ∈ lw_tbl := (mt9 _ (List.mem_of_getElem? (i := 41) rfl))
theorem yv302 : Cond.selects "EmptyChairsModel" ⟨"EmptyChairsModel", "die", "(I)I"⟩ ⟨"EmptyChairsModel", "die", "(I)I"⟩ ∈ lw_tbl := (mt9 _ (List.mem_of_getElem? (i := 42) rfl))
theorem yok302 : YOk 302 := ⟨yc302, rfl, pn12, ⟨ph12, pv12, pd4⟩, pi12, fun h => absurd h (by decide), fun _ => ⟨yi302, Or.inr yv302⟩⟩
theorem yc303 : Cond.code ⟨"EmptyChairsModel", "fall", "(IZ)Z"⟩ prog_14_method_116_code 3 (some .boolean) ∈ lw_tbl := (mt9 _ (List.mem_of_getElem? (i := 54) rfl))
theorem yi303 : Cond.instanceMethod ⟨"EmptyChairsModel", "fall", "(IZ)Z"⟩ ∈ lw_tbl := (mt9 _ (List.mem_of_getElem? (i := 52) rfl))
theorem yv303 : Cond.selects "EmptyChairsModel" ⟨"EmptyChairsModel", "fall", "(IZ)Z"⟩ ⟨"EmptyChairsModel", "fall", "(IZ)Z"⟩ ∈ lw_tbl := (mt9 _ (List.mem_of_getElem? (i := 53) rfl))
theorem yok303 : YOk 303 := ⟨yc303, rfl, pn12, ⟨ph12, pv12, pd26⟩, pi12, fun h => absurd h (by decide), fun _ => ⟨yi303, Or.inr yv303⟩⟩
theorem yc304 : Cond.code ⟨"EmptyChairsModel", "hide", "(IZ)Z"⟩ prog_14_method_117_code 3 (some .boolean) ∈ lw_tbl := (mt9 _ (List.mem_of_getElem? (i := 58) rfl))
theorem yi304 : Cond.instanceMethod ⟨"EmptyChairsModel", "hide", "(IZ)Z"⟩ ∈ lw_tbl := (mt9 _ (List.mem_of_getElem? (i := 56) rfl))
theorem yv304 : Cond.selects "EmptyChairsModel" ⟨"EmptyChairsModel", "hide", "(IZ)Z"⟩ ⟨"EmptyChairsModel", "hide", "(IZ)Z"⟩ ∈ lw_tbl := (mt9 _ (List.mem_of_getElem? (i := 57) rfl))
theorem yok304 : YOk 304 := ⟨yc304, rfl, pn12, ⟨ph12, pv12, pd26⟩, pi12, fun h => absurd h (by decide), fun _ => ⟨yi304, Or.inr yv304⟩⟩
theorem yc305 : Cond.code ⟨"EmptyChairsModel", "carry", "(II)I"⟩ prog_14_method_118_code 4 (some .int) ∈ lw_tbl := (mt9 _ (List.mem_of_getElem? (i := 62) rfl))
theorem yi305 : Cond.instanceMethod ⟨"EmptyChairsModel", "carry", "(II)I"⟩ ∈ lw_tbl := (mt9 _ (List.mem_of_getElem? (i := 60) rfl))
theorem yv305 : Cond.selects "EmptyChairsModel" ⟨"EmptyChairsModel", "carry", "(II)I"⟩ ⟨"EmptyChairsModel", "carry", "(II)I"⟩ ∈ lw_tbl := (mt9 _ (List.mem_of_getElem? (i := 61) rfl))
theorem yok305 : YOk 305 := ⟨yc305, rfl, pn12, ⟨ph12, pv12, pd7⟩, pi12, fun h => absurd h (by decide), fun _ => ⟨yi305, Or.inr yv305⟩⟩
theorem yc306 : Cond.code ⟨"EmptyChairsModel", "year", "()I"⟩ prog_14_method_119_code 4 (some .int) ∈ lw_tbl := (mt9 _ (List.mem_of_getElem? (i := 67) rfl))
theorem yi306 : Cond.instanceMethod ⟨"EmptyChairsModel", "year", "()I"⟩ ∈ lw_tbl := (mt9 _ (List.mem_of_getElem? (i := 65) rfl))
theorem yv306 : Cond.selects "EmptyChairsModel" ⟨"EmptyChairsModel", "year", "()I"⟩ ⟨"EmptyChairsModel", "year", "()I"⟩ ∈ lw_tbl := (mt9 _ (List.mem_of_getElem? (i := 66) rfl))
theorem yok306 : YOk 306 := ⟨yc306, rfl, pn12, ⟨ph12, pv12, pd0⟩, pi12, fun h => absurd h (by decide), fun _ => ⟨yi306, Or.inr yv306⟩⟩
theorem yc307 : Cond.code ⟨"EmptyChairsModel", "isRule", "(II)Z"⟩ prog_14_method_120_code 2 (some .boolean) ∈ lw_tbl := (mt9 _ (List.mem_of_getElem? (i := 74) rfl))
theorem ys307 : Cond.static ⟨"EmptyChairsModel", "isRule", "(II)Z"⟩ ∈ lw_tbl := (mt9 _ (List.mem_of_getElem? (i := 73) rfl))
theorem yok307 : YOk 307 := ⟨yc307, rfl, pn12, ⟨ph12, pv12, pd10⟩, pi12, fun _ => ys307, fun h => absurd h (by decide)⟩
theorem yc308 : Cond.code ⟨"EmptyChairsModel", "rule", "(II)Z"⟩ prog_14_method_121_code 3 (some .boolean) ∈ lw_tbl := (mt9 _ (List.mem_of_getElem? (i := 71) rfl))
theorem yi308 : Cond.instanceMethod ⟨"EmptyChairsModel", "rule", "(II)Z"⟩ ∈ lw_tbl := (mt9 _ (List.mem_of_getElem? (i := 69) rfl))
theorem yv308 : Cond.selects "EmptyChairsModel" ⟨"EmptyChairsModel", "rule", "(II)Z"⟩ ⟨"EmptyChairsModel", "rule", "(II)Z"⟩ ∈ lw_tbl := (mt9 _ (List.mem_of_getElem? (i := 70) rfl))
theorem yok308 : YOk 308 := ⟨yc308, rfl, pn12, ⟨ph12, pv12, pd10⟩, pi12, fun h => absurd h (by decide), fun _ => ⟨yi308, Or.inr yv308⟩⟩
theorem yc309 : Cond.code ⟨"EmptyChairsModel", "join", "(II)I"⟩ prog_14_method_122_code 4 (some .int) ∈ lw_tbl := (mt9 _ (List.mem_of_getElem? (i := 80) rfl))
theorem yi309 : Cond.instanceMethod ⟨"EmptyChairsModel", "join", "(II)I"⟩ ∈ lw_tbl := (mt9 _ (List.mem_of_getElem? (i := 78) rfl))
theorem yv309 : Cond.selects "EmptyChairsModel" ⟨"EmptyChairsModel", "join", "(II)I"⟩ ⟨"EmptyChairsModel", "join", "(II)I"⟩ ∈ lw_tbl := (mt9 _ (List.mem_of_getElem? (i := 79) rfl))
theorem yok309 : YOk 309 := ⟨yc309, rfl, pn12, ⟨ph12, pv12, pd7⟩, pi12, fun h => absurd h (by decide), fun _ => ⟨yi309, Or.inr yv309⟩⟩
theorem yc310 : Cond.code ⟨"EmptyChairsModel", "side", "(III)Z"⟩ prog_14_method_123_code 4 (some .boolean) ∈ lw_tbl := (mt9 _ (List.mem_of_getElem? (i := 84) rfl))
theorem yi310 : Cond.instanceMethod ⟨"EmptyChairsModel", "side", "(III)Z"⟩ ∈ lw_tbl := (mt9 _ (List.mem_of_getElem? (i := 82) rfl))
theorem yv310 : Cond.selects "EmptyChairsModel" ⟨"EmptyChairsModel", "side", "(III)Z"⟩ ⟨"EmptyChairsModel", "side", "(III)Z"⟩ ∈ lw_tbl := (mt9 _ (List.mem_of_getElem? (i := 83) rfl))
theorem yok310 : YOk 310 := ⟨yc310, rfl, pn12, ⟨ph12, pv12, pd13⟩, pi12, fun h => absurd h (by decide), fun _ => ⟨yi310, Or.inr yv310⟩⟩
theorem yc311 : Cond.code ⟨"EmptyChairsModel", "keeps", "()V"⟩ prog_14_method_124_code 2 (none) ∈ lw_tbl := (mt9 _ (List.mem_of_getElem? (i := 95) rfl))
theorem yi311 : Cond.instanceMethod ⟨"EmptyChairsModel", "keeps", "()V"⟩ ∈ lw_tbl := (mt9 _ (List.mem_of_getElem? (i := 94) rfl))
theorem yv311 : Cond.selects "EmptyChairsModel" ⟨"EmptyChairsModel", "keeps", "()V"⟩ ⟨"EmptyChairsModel", "keeps", "()V"⟩ ∈ lw_tbl := in_sel (q := (⟨"EmptyChairsModel", "keeps", "()V"⟩, 42)) (List.mem_append_right _ (List.mem_append_right _ (List.mem_append_right _ (List.mem_append_right _ (List.mem_append_right _ (List.mem_append_right _ (List.mem_append_right _ (List.mem_append_right _ (List.mem_append_left _ (List.mem_of_getElem? (i := 3) rfl))))))))))
theorem yok311 : YOk 311 := ⟨yc311, rfl, pn12, ⟨ph12, pv12, pd2⟩, pi12, fun h => absurd h (by decide), fun _ => ⟨yi311, Or.inr yv311⟩⟩
theorem yc312 : Cond.code ⟨"EmptyChairsModel", "gives", "()V"⟩ prog_14_method_125_code 2 (none) ∈ lw_tbl := (mt9 _ (List.mem_of_getElem? (i := 99) rfl))
theorem yi312 : Cond.instanceMethod ⟨"EmptyChairsModel", "gives", "()V"⟩ ∈ lw_tbl := (mt9 _ (List.mem_of_getElem? (i := 98) rfl))
theorem yv312 : Cond.selects "EmptyChairsModel" ⟨"EmptyChairsModel", "gives", "()V"⟩ ⟨"EmptyChairsModel", "gives", "()V"⟩ ∈ lw_tbl := in_sel (q := (⟨"EmptyChairsModel", "gives", "()V"⟩, 42)) (List.mem_append_right _ (List.mem_append_right _ (List.mem_append_right _ (List.mem_append_right _ (List.mem_append_right _ (List.mem_append_right _ (List.mem_append_right _ (List.mem_append_right _ (List.mem_append_left _ (List.mem_of_getElem? (i := 4) rfl))))))))))
theorem yok312 : YOk 312 := ⟨yc312, rfl, pn12, ⟨ph12, pv12, pd2⟩, pi12, fun h => absurd h (by decide), fun _ => ⟨yi312, Or.inr yv312⟩⟩
theorem yc313 : Cond.code ⟨"EmptyChairsModel", "isAhead", "(I)Z"⟩ prog_14_method_126_code 1 (some .boolean) ∈ lw_tbl := (mt9 _ (List.mem_of_getElem? (i := 91) rfl))
theorem ys313 : Cond.static ⟨"EmptyChairsModel", "isAhead", "(I)Z"⟩ ∈ lw_tbl := (mt9 _ (List.mem_of_getElem? (i := 90) rfl))
theorem yok313 : YOk 313 := ⟨yc313, rfl, pn12, ⟨ph12, pv12, pd6⟩, pi12, fun _ => ys313, fun h => absurd h (by decide)⟩
theorem yc314 : Cond.code ⟨"EmptyChairsModel", "yardsIn", "(II)I"⟩ prog_14_method_127_code 4 (some .int) ∈ lw_tbl := (mt9 _ (List.mem_of_getElem? (i := 88) rfl))
theorem yi314 : Cond.instanceMethod ⟨"EmptyChairsModel", "yardsIn", "(II)I"⟩ ∈ lw_tbl := (mt9 _ (List.mem_of_getElem? (i := 86) rfl))
theorem yv314 : Cond.selects "EmptyChairsModel" ⟨"EmptyChairsModel", "yardsIn", "(II)I"⟩ ⟨"EmptyChairsModel", "yardsIn", "(II)I"⟩ ∈ lw_tbl := (mt9 _ (List.mem_of_getElem? (i := 87) rfl))
theorem yok314 : YOk 314 := ⟨yc314, rfl, pn12, ⟨ph12, pv12, pd7⟩, pi12, fun h => absurd h (by decide), fun _ => ⟨yi314, Or.inr yv314⟩⟩
theorem yc315 : Cond.code ⟨"EmptyChairsModel", "governsIn", "(I)I"⟩ prog_14_method_128_code 3 (some .int) ∈ lw_tbl := (mt9 _ (List.mem_of_getElem? (i := 103) rfl))
theorem yi315 : Cond.instanceMethod ⟨"EmptyChairsModel", "governsIn", "(I)I"⟩ ∈ lw_tbl := (mt9 _ (List.mem_of_getElem? (i := 101) rfl))
theorem yv315 : Cond.selects "EmptyChairsModel" ⟨"EmptyChairsModel", "governsIn", "(I)I"⟩ ⟨"EmptyChairsModel", "governsIn", "(I)I"⟩ ∈ lw_tbl := (mt9 _ (List.mem_of_getElem? (i := 102) rfl))
theorem yok315 : YOk 315 := ⟨yc315, rfl, pn12, ⟨ph12, pv12, pd4⟩, pi12, fun h => absurd h (by decide), fun _ => ⟨yi315, Or.inr yv315⟩⟩
theorem yc316 : Cond.code ⟨"EmptyChairsModel", "isSoNow", "(II)Z"⟩ prog_14_method_129_code 3 (some .boolean) ∈ lw_tbl := (mt9 _ (List.mem_of_getElem? (i := 115) rfl))
theorem yi316 : Cond.instanceMethod ⟨"EmptyChairsModel", "isSoNow", "(II)Z"⟩ ∈ lw_tbl := (mt9 _ (List.mem_of_getElem? (i := 114) rfl))
theorem yv316 : Cond.selects "EmptyChairsModel" ⟨"EmptyChairsModel", "isSoNow", "(II)Z"⟩ ⟨"EmptyChairsModel", "isSoNow", "(II)Z"⟩ ∈ lw_tbl := in_sel (q := (⟨"EmptyChairsModel", "isSoNow", "(II)Z"⟩, 42)) (List.mem_append_right _ (List.mem_append_right _ (List.mem_append_right _ (List.mem_append_right _ (List.mem_append_right _ (List.mem_append_right _ (List.mem_append_right _ (List.mem_append_right _ (List.mem_append_left _ (List.mem_of_getElem? (i := 6) rfl))))))))))
theorem yok316 : YOk 316 := ⟨yc316, rfl, pn12, ⟨ph12, pv12, pd10⟩, pi12, fun h => absurd h (by decide), fun _ => ⟨yi316, Or.inr yv316⟩⟩
theorem yc317 : Cond.code ⟨"EmptyChairsModel", "firstSo", "(II)I"⟩ prog_14_method_130_code 5 (some .int) ∈ lw_tbl := (mt9 _ (List.mem_of_getElem? (i := 111) rfl))
theorem yi317 : Cond.instanceMethod ⟨"EmptyChairsModel", "firstSo", "(II)I"⟩ ∈ lw_tbl := (mt9 _ (List.mem_of_getElem? (i := 110) rfl))
theorem yv317 : Cond.selects "EmptyChairsModel" ⟨"EmptyChairsModel", "firstSo", "(II)I"⟩ ⟨"EmptyChairsModel", "firstSo", "(II)I"⟩ ∈ lw_tbl := in_sel (q := (⟨"EmptyChairsModel", "firstSo", "(II)I"⟩, 42)) (List.mem_append_right _ (List.mem_append_right _ (List.mem_append_right _ (List.mem_append_right _ (List.mem_append_right _ (List.mem_append_right _ (List.mem_append_right _ (List.mem_append_right _ (List.mem_append_left _ (List.mem_of_getElem? (i := 5) rfl))))))))))
theorem yok317 : YOk 317 := ⟨yc317, rfl, pn12, ⟨ph12, pv12, pd7⟩, pi12, fun h => absurd h (by decide), fun _ => ⟨yi317, Or.inr yv317⟩⟩
theorem yc318 : Cond.code ⟨"EmptyChairsModel", "firstIn", "(I)I"⟩ prog_14_method_131_code 2 (some .int) ∈ lw_tbl := (mt9 _ (List.mem_of_getElem? (i := 107) rfl))
theorem yi318 : Cond.instanceMethod ⟨"EmptyChairsModel", "firstIn", "(I)I"⟩ ∈ lw_tbl := (mt9 _ (List.mem_of_getElem? (i := 105) rfl))
theorem yv318 : Cond.selects "EmptyChairsModel" ⟨"EmptyChairsModel", "firstIn", "(I)I"⟩ ⟨"EmptyChairsModel", "firstIn", "(I)I"⟩ ∈ lw_tbl := (mt9 _ (List.mem_of_getElem? (i := 106) rfl))
theorem yok318 : YOk 318 := ⟨yc318, rfl, pn12, ⟨ph12, pv12, pd4⟩, pi12, fun h => absurd h (by decide), fun _ => ⟨yi318, Or.inr yv318⟩⟩
theorem yc319 : Cond.code ⟨"EmptyChairsModel", "carriedIn", "(I)I"⟩ prog_14_method_132_code 2 (some .int) ∈ lw_tbl := (mt9 _ (List.mem_of_getElem? (i := 119) rfl))
theorem yi319 : Cond.instanceMethod ⟨"EmptyChairsModel", "carriedIn", "(I)I"⟩ ∈ lw_tbl := (mt9 _ (List.mem_of_getElem? (i := 117) rfl))
theorem yv319 : Cond.selects "EmptyChairsModel" ⟨"EmptyChairsModel", "carriedIn", "(I)I"⟩ ⟨"EmptyChairsModel", "carriedIn", "(I)I"⟩ ∈ lw_tbl := (mt9 _ (List.mem_of_getElem? (i := 118) rfl))
theorem yok319 : YOk 319 := ⟨yc319, rfl, pn12, ⟨ph12, pv12, pd4⟩, pi12, fun h => absurd h (by decide), fun _ => ⟨yi319, Or.inr yv319⟩⟩
theorem yc320 : Cond.code ⟨"EmptyChairsModel", "emptyIn", "()I"⟩ prog_14_method_133_code 1 (some .int) ∈ lw_tbl := (mt9 _ (List.mem_of_getElem? (i := 123) rfl))
theorem yi320 : Cond.instanceMethod ⟨"EmptyChairsModel", "emptyIn", "()I"⟩ ∈ lw_tbl := (mt9 _ (List.mem_of_getElem? (i := 121) rfl))
theorem yv320 : Cond.selects "EmptyChairsModel" ⟨"EmptyChairsModel", "emptyIn", "()I"⟩ ⟨"EmptyChairsModel", "emptyIn", "()I"⟩ ∈ lw_tbl := (mt9 _ (List.mem_of_getElem? (i := 122) rfl))
theorem yok320 : YOk 320 := ⟨yc320, rfl, pn12, ⟨ph12, pv12, pd0⟩, pi12, fun h => absurd h (by decide), fun _ => ⟨yi320, Or.inr yv320⟩⟩
theorem yc321 : Cond.code ⟨"EmptyChairsModel", "reign", "(II)I"⟩ prog_14_method_134_code 5 (some .int) ∈ lw_tbl := (mt9 _ (List.mem_of_getElem? (i := 127) rfl))
theorem yi321 : Cond.instanceMethod ⟨"EmptyChairsModel", "reign", "(II)I"⟩ ∈ lw_tbl := (mt9 _ (List.mem_of_getElem? (i := 125) rfl))
theorem yv321 : Cond.selects "EmptyChairsModel" ⟨"EmptyChairsModel", "reign", "(II)I"⟩ ⟨"EmptyChairsModel", "reign", "(II)I"⟩ ∈ lw_tbl := (mt9 _ (List.mem_of_getElem? (i := 126) rfl))
theorem yok321 : YOk 321 := ⟨yc321, rfl, pn12, ⟨ph12, pv12, pd7⟩, pi12, fun h => absurd h (by decide), fun _ => ⟨yi321, Or.inr yv321⟩⟩
theorem yc322 : Cond.code ⟨"EmptyChairsModel", "sends", "(I)V"⟩ prog_14_method_135_code 3 (none) ∈ lw_tbl := (mt9 _ (List.mem_of_getElem? (i := 147) rfl))
theorem yi322 : Cond.instanceMethod ⟨"EmptyChairsModel", "sends", "(I)V"⟩ ∈ lw_tbl := (mt9 _ (List.mem_of_getElem? (i := 146) rfl))
theorem yv322 : Cond.selects "EmptyChairsModel" ⟨"EmptyChairsModel", "sends", "(I)V"⟩ ⟨"EmptyChairsModel", "sends", "(I)V"⟩ ∈ lw_tbl := in_sel (q := (⟨"EmptyChairsModel", "sends", "(I)V"⟩, 42)) (List.mem_append_right _ (List.mem_append_right _ (List.mem_append_right _ (List.mem_append_right _ (List.mem_append_right _ (List.mem_append_right _ (List.mem_append_right _ (List.mem_append_right _ (List.mem_append_left _ (List.mem_of_getElem? (i := 10) rfl))))))))))
theorem yok322 : YOk 322 := ⟨yc322, rfl, pn12, ⟨ph12, pv12, pd5⟩, pi12, fun h => absurd h (by decide), fun _ => ⟨yi322, Or.inr yv322⟩⟩
theorem yc323 : Cond.code ⟨"EmptyChairsModel", "free", "()I"⟩ prog_14_method_136_code 3 (some .int) ∈ lw_tbl := (mt9 _ (List.mem_of_getElem? (i := 139) rfl))
theorem yi323 : Cond.instanceMethod ⟨"EmptyChairsModel", "free", "()I"⟩ ∈ lw_tbl := (mt9 _ (List.mem_of_getElem? (i := 138) rfl))
theorem yv323 : Cond.selects "EmptyChairsModel" ⟨"EmptyChairsModel", "free", "()I"⟩ ⟨"EmptyChairsModel", "free", "()I"⟩ ∈ lw_tbl := in_sel (q := (⟨"EmptyChairsModel", "free", "()I"⟩, 42)) (List.mem_append_right _ (List.mem_append_right _ (List.mem_append_right _ (List.mem_append_right _ (List.mem_append_right _ (List.mem_append_right _ (List.mem_append_right _ (List.mem_append_right _ (List.mem_append_left _ (List.mem_of_getElem? (i := 8) rfl))))))))))
theorem yok323 : YOk 323 := ⟨yc323, rfl, pn12, ⟨ph12, pv12, pd0⟩, pi12, fun h => absurd h (by decide), fun _ => ⟨yi323, Or.inr yv323⟩⟩
theorem yc324 : Cond.code ⟨"EmptyChairsModel", "pricesOf", "(I)I"⟩ prog_14_method_137_code 4 (some .int) ∈ lw_tbl := (mt9 _ (List.mem_of_getElem? (i := 143) rfl))
theorem yi324 : Cond.instanceMethod ⟨"EmptyChairsModel", "pricesOf", "(I)I"⟩ ∈ lw_tbl := (mt9 _ (List.mem_of_getElem? (i := 142) rfl))
theorem yv324 : Cond.selects "EmptyChairsModel" ⟨"EmptyChairsModel", "pricesOf", "(I)I"⟩ ⟨"EmptyChairsModel", "pricesOf", "(I)I"⟩ ∈ lw_tbl := in_sel (q := (⟨"EmptyChairsModel", "pricesOf", "(I)I"⟩, 42)) (List.mem_append_right _ (List.mem_append_right _ (List.mem_append_right _ (List.mem_append_right _ (List.mem_append_right _ (List.mem_append_right _ (List.mem_append_right _ (List.mem_append_right _ (List.mem_append_left _ (List.mem_of_getElem? (i := 9) rfl))))))))))
theorem yok324 : YOk 324 := ⟨yc324, rfl, pn12, ⟨ph12, pv12, pd4⟩, pi12, fun h => absurd h (by decide), fun _ => ⟨yi324, Or.inr yv324⟩⟩
theorem yc325 : Cond.code ⟨"EmptyChairsModel", "bestAway", "(IZ)I"⟩ prog_14_method_138_code 7 (some .int) ∈ lw_tbl := (mt9 _ (List.mem_of_getElem? (i := 135) rfl))
theorem yi325 : Cond.instanceMethod ⟨"EmptyChairsModel", "bestAway", "(IZ)I"⟩ ∈ lw_tbl := (mt9 _ (List.mem_of_getElem? (i := 134) rfl))
theorem yv325 : Cond.selects "EmptyChairsModel" ⟨"EmptyChairsModel", "bestAway", "(IZ)I"⟩ ⟨"EmptyChairsModel", "bestAway", "(IZ)I"⟩ ∈ lw_tbl := in_sel (q := (⟨"EmptyChairsModel", "bestAway", "(IZ)I"⟩, 42)) (List.mem_append_right _ (List.mem_append_right _ (List.mem_append_right _ (List.mem_append_right _ (List.mem_append_right _ (List.mem_append_right _ (List.mem_append_right _ (List.mem_append_right _ (List.mem_append_left _ (List.mem_of_getElem? (i := 7) rfl))))))))))
theorem yok325 : YOk 325 := ⟨yc325, rfl, pn12, ⟨ph12, pv12, pd25⟩, pi12, fun h => absurd h (by decide), fun _ => ⟨yi325, Or.inr yv325⟩⟩
theorem yc326 : Cond.code ⟨"EmptyChairsModel", "fewest", "(I)I"⟩ prog_14_method_139_code 3 (some .int) ∈ lw_tbl := (mt9 _ (List.mem_of_getElem? (i := 131) rfl))
theorem yi326 : Cond.instanceMethod ⟨"EmptyChairsModel", "fewest", "(I)I"⟩ ∈ lw_tbl := (mt9 _ (List.mem_of_getElem? (i := 129) rfl))
theorem yv326 : Cond.selects "EmptyChairsModel" ⟨"EmptyChairsModel", "fewest", "(I)I"⟩ ⟨"EmptyChairsModel", "fewest", "(I)I"⟩ ∈ lw_tbl := (mt9 _ (List.mem_of_getElem? (i := 130) rfl))
theorem yok326 : YOk 326 := ⟨yc326, rfl, pn12, ⟨ph12, pv12, pd4⟩, pi12, fun h => absurd h (by decide), fun _ => ⟨yi326, Or.inr yv326⟩⟩
theorem yc327 : Cond.code ⟨"EmptyChairsModel", "fewestSet", "(I)I"⟩ prog_14_method_140_code 3 (some .int) ∈ lw_tbl := (mt9 _ (List.mem_of_getElem? (i := 151) rfl))
theorem yi327 : Cond.instanceMethod ⟨"EmptyChairsModel", "fewestSet", "(I)I"⟩ ∈ lw_tbl := (mt9 _ (List.mem_of_getElem? (i := 149) rfl))
theorem yv327 : Cond.selects "EmptyChairsModel" ⟨"EmptyChairsModel", "fewestSet", "(I)I"⟩ ⟨"EmptyChairsModel", "fewestSet", "(I)I"⟩ ∈ lw_tbl := (mt9 _ (List.mem_of_getElem? (i := 150) rfl))
theorem yok327 : YOk 327 := ⟨yc327, rfl, pn12, ⟨ph12, pv12, pd4⟩, pi12, fun h => absurd h (by decide), fun _ => ⟨yi327, Or.inr yv327⟩⟩
theorem yc328 : Cond.code ⟨"EmptyChairsModel", "cheapest", "(I)I"⟩ prog_14_method_141_code 3 (some .int) ∈ lw_tbl := (mt9 _ (List.mem_of_getElem? (i := 155) rfl))
theorem yi328 : Cond.instanceMethod ⟨"EmptyChairsModel", "cheapest", "(I)I"⟩ ∈ lw_tbl := (mt9 _ (List.mem_of_getElem? (i := 153) rfl))
theorem yv328 : Cond.selects "EmptyChairsModel" ⟨"EmptyChairsModel", "cheapest", "(I)I"⟩ ⟨"EmptyChairsModel", "cheapest", "(I)I"⟩ ∈ lw_tbl := (mt9 _ (List.mem_of_getElem? (i := 154) rfl))
theorem yok328 : YOk 328 := ⟨yc328, rfl, pn12, ⟨ph12, pv12, pd4⟩, pi12, fun h => absurd h (by decide), fun _ => ⟨yi328, Or.inr yv328⟩⟩
theorem yc329 : Cond.code ⟨"EmptyChairsModel", "cheapestSet", "(I)I"⟩ prog_14_method_142_code 3 (some .int) ∈ lw_tbl := (mt9 _ (List.mem_of_getElem? (i := 159) rfl))
theorem yi329 : Cond.instanceMethod ⟨"EmptyChairsModel", "cheapestSet", "(I)I"⟩ ∈ lw_tbl := (mt9 _ (List.mem_of_getElem? (i := 157) rfl))
theorem yv329 : Cond.selects "EmptyChairsModel" ⟨"EmptyChairsModel", "cheapestSet", "(I)I"⟩ ⟨"EmptyChairsModel", "cheapestSet", "(I)I"⟩ ∈ lw_tbl := (mt9 _ (List.mem_of_getElem? (i := 158) rfl))
theorem yok329 : YOk 329 := ⟨yc329, rfl, pn12, ⟨ph12, pv12, pd4⟩, pi12, fun h => absurd h (by decide), fun _ => ⟨yi329, Or.inr yv329⟩⟩
theorem yc330 : Cond.code ⟨"EmptyChairsModel", "powerBy", "(II)I"⟩ prog_14_method_143_code 4 (some .int) ∈ lw_tbl := (mt9 _ (List.mem_of_getElem? (i := 163) rfl))
theorem yi330 : Cond.instanceMethod ⟨"EmptyChairsModel", "powerBy", "(II)I"⟩ ∈ lw_tbl := (mt9 _ (List.mem_of_getElem? (i := 161) rfl))
theorem yv330 : Cond.selects "EmptyChairsModel" ⟨"EmptyChairsModel", "powerBy", "(II)I"⟩ ⟨"EmptyChairsModel", "powerBy", "(II)I"⟩ ∈ lw_tbl := (mt9 _ (List.mem_of_getElem? (i := 162) rfl))
theorem yok330 : YOk 330 := ⟨yc330, rfl, pn12, ⟨ph12, pv12, pd7⟩, pi12, fun h => absurd h (by decide), fun _ => ⟨yi330, Or.inr yv330⟩⟩
theorem yc331 : Cond.code ⟨"EmptyChairsModel", "plays", "(IIII)I"⟩ prog_14_method_144_code 14 (some .int) ∈ lw_tbl := (mt9 _ (List.mem_of_getElem? (i := 175) rfl))
theorem yi331 : Cond.instanceMethod ⟨"EmptyChairsModel", "plays", "(IIII)I"⟩ ∈ lw_tbl := (mt9 _ (List.mem_of_getElem? (i := 174) rfl))
theorem yv331 : Cond.selects "EmptyChairsModel" ⟨"EmptyChairsModel", "plays", "(IIII)I"⟩ ⟨"EmptyChairsModel", "plays", "(IIII)I"⟩ ∈ lw_tbl := in_sel (q := (⟨"EmptyChairsModel", "plays", "(IIII)I"⟩, 42)) (List.mem_append_right _ (List.mem_append_right _ (List.mem_append_right _ (List.mem_append_right _ (List.mem_append_right _ (List.mem_append_right _ (List.mem_append_right _ (List.mem_append_right _ (List.mem_append_left _ (List.mem_of_getElem? (i := 12) rfl))))))))))
theorem yok331 : YOk 331 := ⟨yc331, rfl, pn12, ⟨ph12, pv12, pd14⟩, pi12, fun h => absurd h (by decide), fun _ => ⟨yi331, Or.inr yv331⟩⟩
theorem yc332 : Cond.code ⟨"EmptyChairsModel", "whyNoGame", "(IIII)I"⟩ prog_14_method_145_code 5 (some .int) ∈ lw_tbl := (mt9 _ (List.mem_of_getElem? (i := 171) rfl))
theorem yi332 : Cond.instanceMethod ⟨"EmptyChairsModel", "whyNoGame", "(IIII)I"⟩ ∈ lw_tbl := (mt9 _ (List.mem_of_getElem? (i := 170) rfl))
theorem yv332 : Cond.selects "EmptyChairsModel" ⟨"EmptyChairsModel", "whyNoGame", "(IIII)I"⟩ ⟨"EmptyChairsModel", "whyNoGame", "(IIII)I"⟩ ∈ lw_tbl := in_sel (q := (⟨"EmptyChairsModel", "whyNoGame", "(IIII)I"⟩, 42)) (List.mem_append_right _ (List.mem_append_right _ (List.mem_append_right _ (List.mem_append_right _ (List.mem_append_right _ (List.mem_append_right _ (List.mem_append_right _ (List.mem_append_right _ (List.mem_append_left _ (List.mem_of_getElem? (i := 11) rfl))))))))))
theorem yok332 : YOk 332 := ⟨yc332, rfl, pn12, ⟨ph12, pv12, pd14⟩, pi12, fun h => absurd h (by decide), fun _ => ⟨yi332, Or.inr yv332⟩⟩
theorem yc333 : Cond.code ⟨"EmptyChairsModel", "game", "(III)I"⟩ prog_14_method_146_code 4 (some .int) ∈ lw_tbl := (mt9 _ (List.mem_of_getElem? (i := 167) rfl))
theorem yi333 : Cond.instanceMethod ⟨"EmptyChairsModel", "game", "(III)I"⟩ ∈ lw_tbl := (mt9 _ (List.mem_of_getElem? (i := 165) rfl))
theorem yv333 : Cond.selects "EmptyChairsModel" ⟨"EmptyChairsModel", "game", "(III)I"⟩ ⟨"EmptyChairsModel", "game", "(III)I"⟩ ∈ lw_tbl := (mt9 _ (List.mem_of_getElem? (i := 166) rfl))
theorem yok333 : YOk 333 := ⟨yc333, rfl, pn12, ⟨ph12, pv12, pd11⟩, pi12, fun h => absurd h (by decide), fun _ => ⟨yi333, Or.inr yv333⟩⟩
theorem yc334 : Cond.code ⟨"EmptyChairsModel", "moveOf", "(III)I"⟩ prog_14_method_147_code 4 (some .int) ∈ lw_tbl := (mt9 _ (List.mem_of_getElem? (i := 179) rfl))
theorem yi334 : Cond.instanceMethod ⟨"EmptyChairsModel", "moveOf", "(III)I"⟩ ∈ lw_tbl := (mt9 _ (List.mem_of_getElem? (i := 177) rfl))
theorem yv334 : Cond.selects "EmptyChairsModel" ⟨"EmptyChairsModel", "moveOf", "(III)I"⟩ ⟨"EmptyChairsModel", "moveOf", "(III)I"⟩ ∈ lw_tbl := (mt9 _ (List.mem_of_getElem? (i := 178) rfl))
theorem yok334 : YOk 334 := ⟨yc334, rfl, pn12, ⟨ph12, pv12, pd11⟩, pi12, fun h => absurd h (by decide), fun _ => ⟨yi334, Or.inr yv334⟩⟩
theorem yc335 : Cond.code ⟨"EmptyChairsModel", "isWinning", "(I)Z"⟩ prog_14_method_148_code 2 (some .boolean) ∈ lw_tbl := (mt9 _ (List.mem_of_getElem? (i := 187) rfl))
theorem yi335 : Cond.instanceMethod ⟨"EmptyChairsModel", "isWinning", "(I)Z"⟩ ∈ lw_tbl := (mt9 _ (List.mem_of_getElem? (i := 186) rfl))
theorem yv335 : Cond.selects "EmptyChairsModel" ⟨"EmptyChairsModel", "isWinning", "(I)Z"⟩ ⟨"EmptyChairsModel", "isWinning", "(I)Z"⟩ ∈ lw_tbl := in_sel (q := (⟨"EmptyChairsModel", "isWinning", "(I)Z"⟩, 42)) (List.mem_append_right _ (List.mem_append_right _ (List.mem_append_right _ (List.mem_append_right _ (List.mem_append_right _ (List.mem_append_right _ (List.mem_append_right _ (List.mem_append_right _ (List.mem_append_left _ (List.mem_of_getElem? (i := 13) rfl))))))))))
theorem yok335 : YOk 335 := ⟨yc335, rfl, pn12, ⟨ph12, pv12, pd6⟩, pi12, fun h => absurd h (by decide), fun _ => ⟨yi335, Or.inr yv335⟩⟩
theorem yc336 : Cond.code ⟨"EmptyChairsModel", "winning", "()I"⟩ prog_14_method_149_code 3 (some .int) ∈ lw_tbl := (mt9 _ (List.mem_of_getElem? (i := 183) rfl))
theorem yi336 : Cond.instanceMethod ⟨"EmptyChairsModel", "winning", "()I"⟩ ∈ lw_tbl := (mt9 _ (List.mem_of_getElem? (i := 181) rfl))
theorem yv336 : Cond.selects "EmptyChairsModel" ⟨"EmptyChairsModel", "winning", "()I"⟩ ⟨"EmptyChairsModel", "winning", "()I"⟩ ∈ lw_tbl := (mt9 _ (List.mem_of_getElem? (i := 182) rfl))
theorem yok336 : YOk 336 := ⟨yc336, rfl, pn12, ⟨ph12, pv12, pd0⟩, pi12, fun h => absurd h (by decide), fun _ => ⟨yi336, Or.inr yv336⟩⟩
theorem yc337 : Cond.code ⟨"EmptyChairsModel", "wins", "(I)I"⟩ prog_14_method_150_code 2 (some .int) ∈ lw_tbl := (mt9 _ (List.mem_of_getElem? (i := 191) rfl))
theorem yi337 : Cond.instanceMethod ⟨"EmptyChairsModel", "wins", "(I)I"⟩ ∈ lw_tbl := (mt9 _ (List.mem_of_getElem? (i := 189) rfl))
theorem yv337 : Cond.selects "EmptyChairsModel" ⟨"EmptyChairsModel", "wins", "(I)I"⟩ ⟨"EmptyChairsModel", "wins", "(I)I"⟩ ∈ lw_tbl := (mt9 _ (List.mem_of_getElem? (i := 190) rfl))
theorem yok337 : YOk 337 := ⟨yc337, rfl, pn12, ⟨ph12, pv12, pd4⟩, pi12, fun h => absurd h (by decide), fun _ => ⟨yi337, Or.inr yv337⟩⟩
theorem yc338 : Cond.code ⟨"EmptyChairsModel", "swingsOf", "(I)I"⟩ prog_14_method_151_code 4 (some .int) ∈ lw_tbl := (mt9 _ (List.mem_of_getElem? (i := 199) rfl))
theorem yi338 : Cond.instanceMethod ⟨"EmptyChairsModel", "swingsOf", "(I)I"⟩ ∈ lw_tbl := (mt9 _ (List.mem_of_getElem? (i := 198) rfl))
theorem yv338 : Cond.selects "EmptyChairsModel" ⟨"EmptyChairsModel", "swingsOf", "(I)I"⟩ ⟨"EmptyChairsModel", "swingsOf", "(I)I"⟩ ∈ lw_tbl := in_sel (q := (⟨"EmptyChairsModel", "swingsOf", "(I)I"⟩, 42)) (List.mem_append_right _ (List.mem_append_right _ (List.mem_append_right _ (List.mem_append_right _ (List.mem_append_right _ (List.mem_append_right _ (List.mem_append_right _ (List.mem_append_right _ (List.mem_append_left _ (List.mem_of_getElem? (i := 14) rfl))))))))))
theorem yok338 : YOk 338 := ⟨yc338, rfl, pn12, ⟨ph12, pv12, pd4⟩, pi12, fun h => absurd h (by decide), fun _ => ⟨yi338, Or.inr yv338⟩⟩
theorem yc339 : Cond.code ⟨"EmptyChairsModel", "swings", "(I)I"⟩ prog_14_method_152_code 2 (some .int) ∈ lw_tbl := (mt9 _ (List.mem_of_getElem? (i := 195) rfl))
theorem yi339 : Cond.instanceMethod ⟨"EmptyChairsModel", "swings", "(I)I"⟩ ∈ lw_tbl := (mt9 _ (List.mem_of_getElem? (i := 193) rfl))
theorem yv339 : Cond.selects "EmptyChairsModel" ⟨"EmptyChairsModel", "swings", "(I)I"⟩ ⟨"EmptyChairsModel", "swings", "(I)I"⟩ ∈ lw_tbl := (mt9 _ (List.mem_of_getElem? (i := 194) rfl))
theorem yok339 : YOk 339 := ⟨yc339, rfl, pn12, ⟨ph12, pv12, pd4⟩, pi12, fun h => absurd h (by decide), fun _ => ⟨yi339, Or.inr yv339⟩⟩
theorem yc340 : Cond.code ⟨"EmptyChairsModel", "share", "(I)Z"⟩ prog_14_method_153_code 4 (some .boolean) ∈ lw_tbl := (mt9 _ (List.mem_of_getElem? (i := 203) rfl))
theorem yi340 : Cond.instanceMethod ⟨"EmptyChairsModel", "share", "(I)Z"⟩ ∈ lw_tbl := (mt9 _ (List.mem_of_getElem? (i := 201) rfl))
theorem yv340 : Cond.selects "EmptyChairsModel" ⟨"EmptyChairsModel", "share", "(I)Z"⟩ ⟨"EmptyChairsModel", "share", "(I)Z"⟩ ∈ lw_tbl := (mt9 _ (List.mem_of_getElem? (i := 202) rfl))
theorem yok340 : YOk 340 := ⟨yc340, rfl, pn12, ⟨ph12, pv12, pd6⟩, pi12, fun h => absurd h (by decide), fun _ => ⟨yi340, Or.inr yv340⟩⟩
theorem yc341 : Cond.code ⟨"EmptyChairsModel", "lean", "()I"⟩ prog_14_method_154_code 5 (some .int) ∈ lw_tbl := (mt9 _ (List.mem_of_getElem? (i := 214) rfl))
theorem yi341 : Cond.instanceMethod ⟨"EmptyChairsModel", "lean", "()I"⟩ ∈ lw_tbl := (mt9 _ (List.mem_of_getElem? (i := 212) rfl))
theorem yv341 : Cond.selects "EmptyChairsModel" ⟨"EmptyChairsModel", "lean", "()I"⟩ ⟨"EmptyChairsModel", "lean", "()I"⟩ ∈ lw_tbl := (mt9 _ (List.mem_of_getElem? (i := 213) rfl))
theorem yok341 : YOk 341 := ⟨yc341, rfl, pn12, ⟨ph12, pv12, pd0⟩, pi12, fun h => absurd h (by decide), fun _ => ⟨yi341, Or.inr yv341⟩⟩
theorem yc342 : Cond.code ⟨"EmptyChairsModel", "carriedBy", "(III)I"⟩ prog_14_method_155_code 5 (some .int) ∈ lw_tbl := (mt9 _ (List.mem_of_getElem? (i := 218) rfl))
theorem yi342 : Cond.instanceMethod ⟨"EmptyChairsModel", "carriedBy", "(III)I"⟩ ∈ lw_tbl := (mt9 _ (List.mem_of_getElem? (i := 216) rfl))
theorem yv342 : Cond.selects "EmptyChairsModel" ⟨"EmptyChairsModel", "carriedBy", "(III)I"⟩ ⟨"EmptyChairsModel", "carriedBy", "(III)I"⟩ ∈ lw_tbl := (mt9 _ (List.mem_of_getElem? (i := 217) rfl))
theorem yok342 : YOk 342 := ⟨yc342, rfl, pn12, ⟨ph12, pv12, pd11⟩, pi12, fun h => absurd h (by decide), fun _ => ⟨yi342, Or.inr yv342⟩⟩
theorem yc343 : Cond.code ⟨"EmptyChairsModel", "farFor", "(I)I"⟩ prog_14_method_156_code 5 (some .int) ∈ lw_tbl := (mt9 _ (List.mem_of_getElem? (i := 222) rfl))
theorem yi343 : Cond.instanceMethod ⟨"EmptyChairsModel", "farFor", "(I)I"⟩ ∈ lw_tbl := (mt9 _ (List.mem_of_getElem? (i := 220) rfl))
theorem yv343 : Cond.selects "EmptyChairsModel" ⟨"EmptyChairsModel", "farFor", "(I)I"⟩ ⟨"EmptyChairsModel", "farFor", "(I)I"⟩ ∈ lw_tbl := (mt9 _ (List.mem_of_getElem? (i := 221) rfl))
theorem yok343 : YOk 343 := ⟨yc343, rfl, pn12, ⟨ph12, pv12, pd4⟩, pi12, fun h => absurd h (by decide), fun _ => ⟨yi343, Or.inr yv343⟩⟩
theorem yc344 : Cond.code ⟨"EmptyChairsModel", "whyNoTally", "(I)I"⟩ prog_14_method_157_code 2 (some .int) ∈ lw_tbl := (mt9 _ (List.mem_of_getElem? (i := 230) rfl))
theorem yi344 : Cond.instanceMethod ⟨"EmptyChairsModel", "whyNoTally", "(I)I"⟩ ∈ lw_tbl := (mt9 _ (List.mem_of_getElem? (i := 229) rfl))
theorem yv344 : Cond.selects "EmptyChairsModel" ⟨"EmptyChairsModel", "whyNoTally", "(I)I"⟩ ⟨"EmptyChairsModel", "whyNoTally", "(I)I"⟩ ∈ lw_tbl := in_sel (q := (⟨"EmptyChairsModel", "whyNoTally", "(I)I"⟩, 42)) (List.mem_append_right _ (List.mem_append_right _ (List.mem_append_right _ (List.mem_append_right _ (List.mem_append_right _ (List.mem_append_right _ (List.mem_append_right _ (List.mem_append_right _ (List.mem_append_right _ (List.mem_of_getElem? (i := 0) rfl))))))))))
theorem yok344 : YOk 344 := ⟨yc344, rfl, pn12, ⟨ph12, pv12, pd4⟩, pi12, fun h => absurd h (by decide), fun _ => ⟨yi344, Or.inr yv344⟩⟩
theorem yc345 : Cond.code ⟨"EmptyChairsModel", "isTold", "(I)Z"⟩ prog_14_method_158_code 3 (some .boolean) ∈ lw_tbl := (mt9 _ (List.mem_of_getElem? (i := 238) rfl))
theorem yi345 : Cond.instanceMethod ⟨"EmptyChairsModel", "isTold", "(I)Z"⟩ ∈ lw_tbl := (mt9 _ (List.mem_of_getElem? (i := 237) rfl))
theorem yv345 : Cond.selects "EmptyChairsModel" ⟨"EmptyChairsModel", "isTold", "(I)Z"⟩ ⟨"EmptyChairsModel", "isTold", "(I)Z"⟩ ∈ lw_tbl := in_sel (q := (⟨"EmptyChairsModel", "isTold", "(I)Z"⟩, 42)) (List.mem_append_right _ (List.mem_append_right _ (List.mem_append_right _ (List.mem_append_right _ (List.mem_append_right _ (List.mem_append_right _ (List.mem_append_right _ (List.mem_append_right _ (List.mem_append_right _ (List.mem_of_getElem? (i := 2) rfl))))))))))
theorem yok345 : YOk 345 := ⟨yc345, rfl, pn12, ⟨ph12, pv12, pd6⟩, pi12, fun h => absurd h (by decide), fun _ => ⟨yi345, Or.inr yv345⟩⟩
theorem yc346 : Cond.code ⟨"EmptyChairsModel", "laysWays", "(I)V"⟩ prog_14_method_159_code 5 (none) ∈ lw_tbl := (mt9 _ (List.mem_of_getElem? (i := 234) rfl))
theorem yi346 : Cond.instanceMethod ⟨"EmptyChairsModel", "laysWays", "(I)V"⟩ ∈ lw_tbl := (mt9 _ (List.mem_of_getElem? (i := 233) rfl))
theorem yv346 : Cond.selects "EmptyChairsModel" ⟨"EmptyChairsModel", "laysWays", "(I)V"⟩ ⟨"EmptyChairsModel", "laysWays", "(I)V"⟩ ∈ lw_tbl := in_sel (q := (⟨"EmptyChairsModel", "laysWays", "(I)V"⟩, 42)) (List.mem_append_right _ (List.mem_append_right _ (List.mem_append_right _ (List.mem_append_right _ (List.mem_append_right _ (List.mem_append_right _ (List.mem_append_right _ (List.mem_append_right _ (List.mem_append_right _ (List.mem_of_getElem? (i := 1) rfl))))))))))
theorem yok346 : YOk 346 := ⟨yc346, rfl, pn12, ⟨ph12, pv12, pd5⟩, pi12, fun h => absurd h (by decide), fun _ => ⟨yi346, Or.inr yv346⟩⟩
theorem yc347 : Cond.code ⟨"EmptyChairsModel", "tally", "(I)I"⟩ prog_14_method_160_code 2 (some .int) ∈ lw_tbl := (mt9 _ (List.mem_of_getElem? (i := 226) rfl))
theorem yi347 : Cond.instanceMethod ⟨"EmptyChairsModel", "tally", "(I)I"⟩ ∈ lw_tbl := (mt9 _ (List.mem_of_getElem? (i := 224) rfl))
theorem yv347 : Cond.selects "EmptyChairsModel" ⟨"EmptyChairsModel", "tally", "(I)I"⟩ ⟨"EmptyChairsModel", "tally", "(I)I"⟩ ∈ lw_tbl := (mt9 _ (List.mem_of_getElem? (i := 225) rfl))
theorem yok347 : YOk 347 := ⟨yc347, rfl, pn12, ⟨ph12, pv12, pd4⟩, pi12, fun h => absurd h (by decide), fun _ => ⟨yi347, Or.inr yv347⟩⟩
theorem yc348 : Cond.code ⟨"EmptyChairsModel", "sure", "(I)I"⟩ prog_14_method_161_code 2 (some .int) ∈ lw_tbl := (mt10 _ (List.mem_of_getElem? (i := 6) rfl))
theorem yi348 : Cond.instanceMethod ⟨"EmptyChairsModel", "sure", "(I)I"⟩ ∈ lw_tbl := (mt10 _ (List.mem_of_getElem? (i := 4) rfl))
theorem yv348 : Cond.selects "EmptyChairsModel" ⟨"EmptyChairsModel", "sure", "(I)I"⟩ ⟨"EmptyChairsModel", "sure", "(I)I"⟩ ∈ lw_tbl := (mt10 _ (List.mem_of_getElem? (i := 5) rfl))
theorem yok348 : YOk 348 := ⟨yc348, rfl, pn12, ⟨ph12, pv12, pd4⟩, pi12, fun h => absurd h (by decide), fun _ => ⟨yi348, Or.inr yv348⟩⟩
theorem yc349 : Cond.code ⟨"EmptyChairsModel", "ask", "(I)I"⟩ prog_14_method_162_code 6 (some .int) ∈ lw_tbl := (mt10 _ (List.mem_of_getElem? (i := 10) rfl))
theorem yi349 : Cond.instanceMethod ⟨"EmptyChairsModel", "ask", "(I)I"⟩ ∈ lw_tbl := (mt10 _ (List.mem_of_getElem? (i := 8) rfl))
theorem yv349 : Cond.selects "EmptyChairsModel" ⟨"EmptyChairsModel", "ask", "(I)I"⟩ ⟨"EmptyChairsModel", "ask", "(I)I"⟩ ∈ lw_tbl := (mt10 _ (List.mem_of_getElem? (i := 9) rfl))
theorem yok349 : YOk 349 := ⟨yc349, rfl, pn12, ⟨ph12, pv12, pd4⟩, pi12, fun h => absurd h (by decide), fun _ => ⟨yi349, Or.inr yv349⟩⟩
theorem yc350 : Cond.code ⟨"EmptyChairsModel", "allOdds", "()I"⟩ prog_14_method_163_code 3 (some .int) ∈ lw_tbl := (mt10 _ (List.mem_of_getElem? (i := 18) rfl))
theorem yi350 : Cond.instanceMethod ⟨"EmptyChairsModel", "allOdds", "()I"⟩ ∈ lw_tbl := (mt10 _ (List.mem_of_getElem? (i := 17) rfl))
theorem yv350 : Cond.selects "EmptyChairsModel" ⟨"EmptyChairsModel", "allOdds", "()I"⟩ ⟨"EmptyChairsModel", "allOdds", "()I"⟩ ∈ lw_tbl := in_sel (q := (⟨"EmptyChairsModel", "allOdds", "()I"⟩, 42)) (List.mem_append_right _ (List.mem_append_right _ (List.mem_append_right _ (List.mem_append_right _ (List.mem_append_right _ (List.mem_append_right _ (List.mem_append_right _ (List.mem_append_right _ (List.mem_append_right _ (List.mem_of_getElem? (i := 4) rfl))))))))))
theorem yok350 : YOk 350 := ⟨yc350, rfl, pn12, ⟨ph12, pv12, pd0⟩, pi12, fun h => absurd h (by decide), fun _ => ⟨yi350, Or.inr yv350⟩⟩
theorem yc351 : Cond.code ⟨"EmptyChairsModel", "isSooner", "(II)Z"⟩ prog_14_method_164_code 3 (some .boolean) ∈ lw_tbl := (mt10 _ (List.mem_of_getElem? (i := 26) rfl))
theorem yi351 : Cond.instanceMethod ⟨"EmptyChairsModel", "isSooner", "(II)Z"⟩ ∈ lw_tbl := (mt10 _ (List.mem_of_getElem? (i := 25) rfl))
theorem yv351 : Cond.selects "EmptyChairsModel" ⟨"EmptyChairsModel", "isSooner", "(II)Z"⟩ ⟨"EmptyChairsModel", "isSooner", "(II)Z"⟩ ∈ lw_tbl := in_sel (q := (⟨"EmptyChairsModel", "isSooner", "(II)Z"⟩, 42)) (List.mem_append_right _ (List.mem_append_right _ (List.mem_append_right _ (List.mem_append_right _ (List.mem_append_right _ (List.mem_append_right _ (List.mem_append_right _ (List.mem_append_right _ (List.mem_append_right _ (List.mem_of_getElem? (i := 6) rfl))))))))))
theorem yok351 : YOk 351 := ⟨yc351, rfl, pn12, ⟨ph12, pv12, pd10⟩, pi12, fun h => absurd h (by decide), fun _ => ⟨yi351, Or.inr yv351⟩⟩
theorem yc352 : Cond.code ⟨"EmptyChairsModel", "laysOrder", "()V"⟩ prog_14_method_165_code 5 (none) ∈ lw_tbl := (mt10 _ (List.mem_of_getElem? (i := 22) rfl))
theorem yi352 : Cond.instanceMethod ⟨"EmptyChairsModel", "laysOrder", "()V"⟩ ∈ lw_tbl := (mt10 _ (List.mem_of_getElem? (i := 21) rfl))
theorem yv352 : Cond.selects "EmptyChairsModel" ⟨"EmptyChairsModel", "laysOrder", "()V"⟩ ⟨"EmptyChairsModel", "laysOrder", "()V"⟩ ∈ lw_tbl := in_sel (q := (⟨"EmptyChairsModel", "laysOrder", "()V"⟩, 42)) (List.mem_append_right _ (List.mem_append_right _ (List.mem_append_right _ (List.mem_append_right _ (List.mem_append_right _ (List.mem_append_right _ (List.mem_append_right _ (List.mem_append_right _ (List.mem_append_right _ (List.mem_of_getElem? (i := 5) rfl))))))))))
theorem yok352 : YOk 352 := ⟨yc352, rfl, pn12, ⟨ph12, pv12, pd2⟩, pi12, fun h => absurd h (by decide), fun _ => ⟨yi352, Or.inr yv352⟩⟩
theorem yc353 : Cond.code ⟨"EmptyChairsModel", "seek", "()Z"⟩ prog_14_method_166_code 6 (some .boolean) ∈ lw_tbl := (mt10 _ (List.mem_of_getElem? (i := 14) rfl))
theorem yi353 : Cond.instanceMethod ⟨"EmptyChairsModel", "seek", "()Z"⟩ ∈ lw_tbl := (mt10 _ (List.mem_of_getElem? (i := 12) rfl))
theorem yv353 : Cond.selects "EmptyChairsModel" ⟨"EmptyChairsModel", "seek", "()Z"⟩ ⟨"EmptyChairsModel", "seek", "()Z"⟩ ∈ lw_tbl := (mt10 _ (List.mem_of_getElem? (i := 13) rfl))
theorem yok353 : YOk 353 := ⟨yc353, rfl, pn12, ⟨ph12, pv12, pd3⟩, pi12, fun h => absurd h (by decide), fun _ => ⟨yi353, Or.inr yv353⟩⟩
theorem yc354 : Cond.code ⟨"EmptyChairsModel", "seekAt", "(I)I"⟩ prog_14_method_167_code 2 (some .int) ∈ lw_tbl := (mt10 _ (List.mem_of_getElem? (i := 30) rfl))
theorem yi354 : Cond.instanceMethod ⟨"EmptyChairsModel", "seekAt", "(I)I"⟩ ∈ lw_tbl := (mt10 _ (List.mem_of_getElem? (i := 28) rfl))
theorem yv354 : Cond.selects "EmptyChairsModel" ⟨"EmptyChairsModel", "seekAt", "(I)I"⟩ ⟨"EmptyChairsModel", "seekAt", "(I)I"⟩ ∈ lw_tbl := (mt10 _ (List.mem_of_getElem? (i := 29) rfl))
theorem yok354 : YOk 354 := ⟨yc354, rfl, pn12, ⟨ph12, pv12, pd4⟩, pi12, fun h => absurd h (by decide), fun _ => ⟨yi354, Or.inr yv354⟩⟩
theorem yc355 : Cond.code ⟨"EmptyChairsModel", "draw", "(I)I"⟩ prog_14_method_168_code 2 (some .int) ∈ lw_tbl := (mt10 _ (List.mem_of_getElem? (i := 63) rfl))
theorem yi355 : Cond.instanceMethod ⟨"EmptyChairsModel", "draw", "(I)I"⟩ ∈ lw_tbl := (mt10 _ (List.mem_of_getElem? (i := 62) rfl))
theorem yv355 : Cond.selects "EmptyChairsModel" ⟨"EmptyChairsModel", "draw", "(I)I"⟩ ⟨"EmptyChairsModel", "draw", "(I)I"⟩ ∈ lw_tbl := in_sel (q := (⟨"EmptyChairsModel", "draw", "(I)I"⟩, 42)) (List.mem_append_right _ (List.mem_append_right _ (List.mem_append_right _ (List.mem_append_right _ (List.mem_append_right _ (List.mem_append_right _ (List.mem_append_right _ (List.mem_append_right _ (List.mem_append_right _ (List.mem_of_getElem? (i := 13) rfl))))))))))
theorem yok355 : YOk 355 := ⟨yc355, rfl, pn12, ⟨ph12, pv12, pd4⟩, pi12, fun h => absurd h (by decide), fun _ => ⟨yi355, Or.inr yv355⟩⟩
theorem yc356 : Cond.code ⟨"EmptyChairsModel", "anyMinutes", "(I)Z"⟩ prog_14_method_169_code 3 (some .boolean) ∈ lw_tbl := (mt10 _ (List.mem_of_getElem? (i := 55) rfl))
theorem yi356 : Cond.instanceMethod ⟨"EmptyChairsModel", "anyMinutes", "(I)Z"⟩ ∈ lw_tbl := (mt10 _ (List.mem_of_getElem? (i := 54) rfl))
theorem yv356 : Cond.selects "EmptyChairsModel" ⟨"EmptyChairsModel", "anyMinutes", "(I)Z"⟩ ⟨"EmptyChairsModel", "anyMinutes", "(I)Z"⟩ ∈ lw_tbl := in_sel (q := (⟨"EmptyChairsModel", "anyMinutes", "(I)Z"⟩, 42)) (List.mem_append_right _ (List.mem_append_right _ (List.mem_append_right _ (List.mem_append_right _ (List.mem_append_right _ (List.mem_append_right _ (List.mem_append_right _ (List.mem_append_right _ (List.mem_append_right _ (List.mem_of_getElem? (i := 11) rfl))))))))))
theorem yok356 : YOk 356 := ⟨yc356, rfl, pn12, ⟨ph12, pv12, pd6⟩, pi12, fun h => absurd h (by decide), fun _ => ⟨yi356, Or.inr yv356⟩⟩
theorem yc357 : Cond.code ⟨"EmptyChairsModel", "isAny", "()Z"⟩ prog_14_method_170_code 2 (some .boolean) ∈ lw_tbl := (mt10 _ (List.mem_of_getElem? (i := 59) rfl))
theorem yi357 : Cond.instanceMethod ⟨"EmptyChairsModel", "isAny", "()Z"⟩ ∈ lw_tbl := (mt10 _ (List.mem_of_getElem? (i := 58) rfl))
theorem yv357 : Cond.selects "EmptyChairsModel" ⟨"EmptyChairsModel", "isAny", "()Z"⟩ ⟨"EmptyChairsModel", "isAny", "()Z"⟩ ∈ lw_tbl := in_sel (q := (⟨"EmptyChairsModel", "isAny", "()Z"⟩, 42)) (List.mem_append_right _ (List.mem_append_right _ (List.mem_append_right _ (List.mem_append_right _ (List.mem_append_right _ (List.mem_append_right _ (List.mem_append_right _ (List.mem_append_right _ (List.mem_append_right _ (List.mem_of_getElem? (i := 12) rfl))))))))))
theorem yok357 : YOk 357 := ⟨yc357, rfl, pn12, ⟨ph12, pv12, pd3⟩, pi12, fun h => absurd h (by decide), fun _ => ⟨yi357, Or.inr yv357⟩⟩
theorem yc358 : Cond.code ⟨"EmptyChairsModel", "does", "(I)Z"⟩ prog_14_method_171_code 4 (some .boolean) ∈ lw_tbl := (mt10 _ (List.mem_of_getElem? (i := 51) rfl))
theorem yi358 : Cond.instanceMethod ⟨"EmptyChairsModel", "does", "(I)Z"⟩ ∈ lw_tbl := (mt10 _ (List.mem_of_getElem? (i := 50) rfl))
theorem yv358 : Cond.selects "EmptyChairsModel" ⟨"EmptyChairsModel", "does", "(I)Z"⟩ ⟨"EmptyChairsModel", "does", "(I)Z"⟩ ∈ lw_tbl := in_sel (q := (⟨"EmptyChairsModel", "does", "(I)Z"⟩, 42)) (List.mem_append_right _ (List.mem_append_right _ (List.mem_append_right _ (List.mem_append_right _ (List.mem_append_right _ (List.mem_append_right _ (List.mem_append_right _ (List.mem_append_right _ (List.mem_append_right _ (List.mem_of_getElem? (i := 10) rfl))))))))))
theorem yok358 : YOk 358 := ⟨yc358, rfl, pn12, ⟨ph12, pv12, pd6⟩, pi12, fun h => absurd h (by decide), fun _ => ⟨yi358, Or.inr yv358⟩⟩
theorem yc359 : Cond.code ⟨"EmptyChairsModel", "isSo", "(I)Z"⟩ prog_14_method_172_code 5 (some .boolean) ∈ lw_tbl := (mt10 _ (List.mem_of_getElem? (i := 68) rfl))
theorem yi359 : Cond.instanceMethod ⟨"EmptyChairsModel", "isSo", "(I)Z"⟩ ∈ lw_tbl := (mt10 _ (List.mem_of_getElem? (i := 67) rfl))
theorem yv359 : Cond.selects "EmptyChairsModel" ⟨"EmptyChairsModel", "isSo", "(I)Z"⟩ ⟨"EmptyChairsModel", "isSo", "(I)Z"⟩ ∈ lw_tbl := in_sel (q := (⟨"EmptyChairsModel", "isSo", "(I)Z"⟩, 42)) (List.mem_append_right _ (List.mem_append_right _ (List.mem_append_right _ (List.mem_append_right _ (List.mem_append_right _ (List.mem_append_right _ (List.mem_append_right _ (List.mem_append_right _ (List.mem_append_right _ (List.mem_of_getElem? (i := 14) rfl))))))))))
theorem yok359 : YOk 359 := ⟨yc359, rfl, pn12, ⟨ph12, pv12, pd6⟩, pi12, fun h => absurd h (by decide), fun _ => ⟨yi359, Or.inr yv359⟩⟩
theorem yc360 : Cond.code ⟨"EmptyChairsModel", "doOne", "(I)V"⟩ prog_14_method_173_code 5 (none) ∈ lw_tbl := (mt10 _ (List.mem_of_getElem? (i := 47) rfl))
theorem yi360 : Cond.instanceMethod ⟨"EmptyChairsModel", "doOne", "(I)V"⟩ ∈ lw_tbl := (mt10 _ (List.mem_of_getElem? (i := 46) rfl))
theorem yv360 : Cond.selects "EmptyChairsModel" ⟨"EmptyChairsModel", "doOne", "(I)V"⟩ ⟨"EmptyChairsModel", "doOne", "(I)V"⟩ ∈ lw_tbl := in_sel (q := (⟨"EmptyChairsModel", "doOne", "(I)V"⟩, 42)) (List.mem_append_right _ (List.mem_append_right _ (List.mem_append_right _ (List.mem_append_right _ (List.mem_append_right _ (List.mem_append_right _ (List.mem_append_right _ (List.mem_append_right _ (List.mem_append_right _ (List.mem_of_getElem? (i := 9) rfl))))))))))
theorem yok360 : YOk 360 := ⟨yc360, rfl, pn12, ⟨ph12, pv12, pd5⟩, pi12, fun h => absurd h (by decide), fun _ => ⟨yi360, Or.inr yv360⟩⟩
theorem yc361 : Cond.code ⟨"EmptyChairsModel", "doAll", "(II)V"⟩ prog_14_method_174_code 4 (none) ∈ lw_tbl := (mt10 _ (List.mem_of_getElem? (i := 43) rfl))
theorem yi361 : Cond.instanceMethod ⟨"EmptyChairsModel", "doAll", "(II)V"⟩ ∈ lw_tbl := (mt10 _ (List.mem_of_getElem? (i := 42) rfl))
theorem yv361 : Cond.selects "EmptyChairsModel" ⟨"EmptyChairsModel", "doAll", "(II)V"⟩ ⟨"EmptyChairsModel", "doAll", "(II)V"⟩ ∈ lw_tbl := in_sel (q := (⟨"EmptyChairsModel", "doAll", "(II)V"⟩, 42)) (List.mem_append_right _ (List.mem_append_right _ (List.mem_append_right _ (List.mem_append_right _ (List.mem_append_right _ (List.mem_append_right _ (List.mem_append_right _ (List.mem_append_right _ (List.mem_append_right _ (List.mem_of_getElem? (i := 8) rfl))))))))))
theorem yok361 : YOk 361 := ⟨yc361, rfl, pn12, ⟨ph12, pv12, pd9⟩, pi12, fun h => absurd h (by decide), fun _ => ⟨yi361, Or.inr yv361⟩⟩
theorem yc362 : Cond.code ⟨"EmptyChairsModel", "runsSessions", "(I)V"⟩ prog_14_method_175_code 2 (none) ∈ lw_tbl := (mt10 _ (List.mem_of_getElem? (i := 39) rfl))
theorem yi362 : Cond.instanceMethod ⟨"EmptyChairsModel", "runsSessions", "(I)V"⟩ ∈ lw_tbl := (mt10 _ (List.mem_of_getElem? (i := 38) rfl))
theorem yv362 : Cond.selects "EmptyChairsModel" ⟨"EmptyChairsModel", "runsSessions", "(I)V"⟩ ⟨"EmptyChairsModel", "runsSessions", "(I)V"⟩ ∈ lw_tbl := in_sel (q := (⟨"EmptyChairsModel", "runsSessions", "(I)V"⟩, 42)) (List.mem_append_right _ (List.mem_append_right _ (List.mem_append_right _ (List.mem_append_right _ (List.mem_append_right _ (List.mem_append_right _ (List.mem_append_right _ (List.mem_append_right _ (List.mem_append_right _ (List.mem_of_getElem? (i := 7) rfl))))))))))
theorem yok362 : YOk 362 := ⟨yc362, rfl, pn12, ⟨ph12, pv12, pd5⟩, pi12, fun h => absurd h (by decide), fun _ => ⟨yi362, Or.inr yv362⟩⟩
theorem yc363 : Cond.code ⟨"EmptyChairsModel", "live", "(I)I"⟩ prog_14_method_176_code 2 (some .int) ∈ lw_tbl := (mt10 _ (List.mem_of_getElem? (i := 34) rfl))
theorem yi363 : Cond.instanceMethod ⟨"EmptyChairsModel", "live", "(I)I"⟩ ∈ lw_tbl := (mt10 _ (List.mem_of_getElem? (i := 32) rfl))
theorem yv363 : Cond.selects "EmptyChairsModel" ⟨"EmptyChairsModel", "live", "(I)I"⟩ ⟨"EmptyChairsModel", "live", "(I)I"⟩ ∈ lw_tbl := (mt10 _ (List.mem_of_getElem? (i := 33) rfl))
theorem yok363 : YOk 363 := ⟨yc363, rfl, pn12, ⟨ph12, pv12, pd4⟩, pi12, fun h => absurd h (by decide), fun _ => ⟨yi363, Or.inr yv363⟩⟩
theorem yc364 : Cond.code ⟨"EmptyChairsModel", "lived", "(I)I"⟩ prog_14_method_177_code 2 (some .int) ∈ lw_tbl := (mt10 _ (List.mem_of_getElem? (i := 72) rfl))
theorem yi364 : Cond.instanceMethod ⟨"EmptyChairsModel", "lived", "(I)I"⟩ ∈ lw_tbl := (mt10 _ (List.mem_of_getElem? (i := 70) rfl))
theorem yv364 : Cond.selects "EmptyChairsModel" ⟨"EmptyChairsModel", "lived", "(I)I"⟩ ⟨"EmptyChairsModel", "lived", "(I)I"⟩ ∈ lw_tbl := (mt10 _ (List.mem_of_getElem? (i := 71) rfl))
theorem yok364 : YOk 364 := ⟨yc364, rfl, pn12, ⟨ph12, pv12, pd4⟩, pi12, fun h => absurd h (by decide), fun _ => ⟨yi364, Or.inr yv364⟩⟩
theorem yc365 : Cond.code ⟨"EmptyChairsModel", "mean", "(II)Z"⟩ prog_14_method_178_code 7 (some .boolean) ∈ lw_tbl := (mt10 _ (List.mem_of_getElem? (i := 76) rfl))
theorem yi365 : Cond.instanceMethod ⟨"EmptyChairsModel", "mean", "(II)Z"⟩ ∈ lw_tbl := (mt10 _ (List.mem_of_getElem? (i := 74) rfl))
theorem yv365 : Cond.selects "EmptyChairsModel" ⟨"EmptyChairsModel", "mean", "(II)Z"⟩ ⟨"EmptyChairsModel", "mean", "(II)Z"⟩ ∈ lw_tbl := (mt10 _ (List.mem_of_getElem? (i := 75) rfl))
theorem yok365 : YOk 365 := ⟨yc365, rfl, pn12, ⟨ph12, pv12, pd10⟩, pi12, fun h => absurd h (by decide), fun _ => ⟨yi365, Or.inr yv365⟩⟩
theorem yc366 : Cond.code ⟨"EmptyChairsModel", "copy", "(II)V"⟩ prog_14_method_179_code 4 (none) ∈ lw_tbl := (mt8 _ (List.mem_of_getElem? (i := 129) rfl))
theorem yi366 : Cond.instanceMethod ⟨"EmptyChairsModel", "copy", "(II)V"⟩ ∈ lw_tbl := (mt8 _ (List.mem_of_getElem? (i := 128) rfl))
theorem yv366 : Cond.selects "EmptyChairsModel" ⟨"EmptyChairsModel", "copy", "(II)V"⟩ ⟨"EmptyChairsModel", "copy", "(II)V"⟩ ∈ lw_tbl := in_sel (q := (⟨"EmptyChairsModel", "copy", "(II)V"⟩, 42)) (List.mem_append_right _ (List.mem_append_right _ (List.mem_append_right _ (List.mem_append_right _ (List.mem_append_right _ (List.mem_append_right _ (List.mem_append_left _ (List.mem_of_getElem? (i := 11) rfl))))))))
theorem yok366 : YOk 366 := ⟨yc366, rfl, pn12, ⟨ph12, pv12, pd9⟩, pi12, fun h => absurd h (by decide), fun _ => ⟨yi366, Or.inr yv366⟩⟩
theorem yc367 : Cond.code ⟨"EmptyChairsModel", "mark", "()I"⟩ prog_14_method_180_code 1 (some .int) ∈ lw_tbl := (mt10 _ (List.mem_of_getElem? (i := 80) rfl))
theorem yi367 : Cond.instanceMethod ⟨"EmptyChairsModel", "mark", "()I"⟩ ∈ lw_tbl := (mt10 _ (List.mem_of_getElem? (i := 78) rfl))
theorem yv367 : Cond.selects "EmptyChairsModel" ⟨"EmptyChairsModel", "mark", "()I"⟩ ⟨"EmptyChairsModel", "mark", "()I"⟩ ∈ lw_tbl := (mt10 _ (List.mem_of_getElem? (i := 79) rfl))
theorem yok367 : YOk 367 := ⟨yc367, rfl, pn12, ⟨ph12, pv12, pd0⟩, pi12, fun h => absurd h (by decide), fun _ => ⟨yi367, Or.inr yv367⟩⟩
theorem yc368 : Cond.code ⟨"EmptyChairsModel", "back", "()I"⟩ prog_14_method_181_code 1 (some .int) ∈ lw_tbl := (mt10 _ (List.mem_of_getElem? (i := 84) rfl))
theorem yi368 : Cond.instanceMethod ⟨"EmptyChairsModel", "back", "()I"⟩ ∈ lw_tbl := (mt10 _ (List.mem_of_getElem? (i := 82) rfl))
theorem yv368 : Cond.selects "EmptyChairsModel" ⟨"EmptyChairsModel", "back", "()I"⟩ ⟨"EmptyChairsModel", "back", "()I"⟩ ∈ lw_tbl := (mt10 _ (List.mem_of_getElem? (i := 83) rfl))
theorem yok368 : YOk 368 := ⟨yc368, rfl, pn12, ⟨ph12, pv12, pd0⟩, pi12, fun h => absurd h (by decide), fun _ => ⟨yi368, Or.inr yv368⟩⟩
theorem yc369 : Cond.code ⟨"java/lang/Integer", "bitCount", "(I)I"⟩ prog_15_method_49_code 1 (some .int) ∈ lw_tbl := (mt5 _ (List.mem_of_getElem? (i := 136) rfl))
theorem ys369 : Cond.static ⟨"java/lang/Integer", "bitCount", "(I)I"⟩ ∈ lw_tbl := (mt5 _ (List.mem_of_getElem? (i := 135) rfl))
theorem yok369 : YOk 369 := ⟨yc369, rfl, pn13, ⟨ph13, pv13, pd4⟩, pi13, fun _ => ys369, fun h => absurd h (by decide)⟩
theorem yc370 : Cond.code ⟨"java/util/Arrays", "fill", "([JJ)V"⟩ prog_21_method_101_code 5 (none) ∈ lw_tbl := (mt3 _ (List.mem_of_getElem? (i := 152) rfl))
theorem ys370 : Cond.static ⟨"java/util/Arrays", "fill", "([JJ)V"⟩ ∈ lw_tbl := (mt3 _ (List.mem_of_getElem? (i := 151) rfl))
theorem yok370 : YOk 370 := ⟨yc370, rfl, pn14, ⟨ph14, pv14, pd53⟩, pi14, fun _ => ys370, fun h => absurd h (by decide)⟩
theorem yc371 : Cond.code ⟨"java/util/Arrays", "fill", "([II)V"⟩ prog_21_method_103_code 4 (none) ∈ lw_tbl := (mt3 _ (List.mem_of_getElem? (i := 224) rfl))
theorem ys371 : Cond.static ⟨"java/util/Arrays", "fill", "([II)V"⟩ ∈ lw_tbl := (mt3 _ (List.mem_of_getElem? (i := 223) rfl))
theorem yok371 : YOk 371 := ⟨yc371, rfl, pn14, ⟨ph14, pv14, pd52⟩, pi14, fun _ => ys371, fun h => absurd h (by decide)⟩
theorem yokc0 : ∀ mi, 0 ≤ mi → mi < 25 → YOk mi := fun mi h1 h2 => by
  rcases (show mi = 0 ∨ mi = 1 ∨ mi = 2 ∨ mi = 3 ∨ mi = 4 ∨ mi = 5 ∨ mi = 6 ∨ mi = 7 ∨ mi = 8 ∨ mi = 9 ∨ mi = 10 ∨ mi = 11 ∨ mi = 12 ∨ mi = 13 ∨ mi = 14 ∨ mi = 15 ∨ mi = 16 ∨ mi = 17 ∨ mi = 18 ∨ mi = 19 ∨ mi = 20 ∨ mi = 21 ∨ mi = 22 ∨ mi = 23 ∨ mi = 24 by omega) with rfl | rfl | rfl | rfl | rfl | rfl | rfl | rfl | rfl | rfl | rfl | rfl | rfl | rfl | rfl | rfl | rfl | rfl | rfl | rfl | rfl | rfl | rfl | rfl | rfl
  · exact yok0
  · exact yok1
  · exact yok2
  · exact yok3
  · exact yok4
  · exact yok5
  · exact yok6
  · exact yok7
  · exact yok8
  · exact yok9
  · exact yok10
  · exact yok11
  · exact yok12
  · exact yok13
  · exact yok14
  · exact yok15
  · exact yok16
  · exact yok17
  · exact yok18
  · exact yok19
  · exact yok20
  · exact yok21
  · exact yok22
  · exact yok23
  · exact yok24
theorem yokc1 : ∀ mi, 25 ≤ mi → mi < 50 → YOk mi := fun mi h1 h2 => by
  rcases (show mi = 25 ∨ mi = 26 ∨ mi = 27 ∨ mi = 28 ∨ mi = 29 ∨ mi = 30 ∨ mi = 31 ∨ mi = 32 ∨ mi = 33 ∨ mi = 34 ∨ mi = 35 ∨ mi = 36 ∨ mi = 37 ∨ mi = 38 ∨ mi = 39 ∨ mi = 40 ∨ mi = 41 ∨ mi = 42 ∨ mi = 43 ∨ mi = 44 ∨ mi = 45 ∨ mi = 46 ∨ mi = 47 ∨ mi = 48 ∨ mi = 49 by omega) with rfl | rfl | rfl | rfl | rfl | rfl | rfl | rfl | rfl | rfl | rfl | rfl | rfl | rfl | rfl | rfl | rfl | rfl | rfl | rfl | rfl | rfl | rfl | rfl | rfl
  · exact yok25
  · exact yok26
  · exact yok27
  · exact yok28
  · exact yok29
  · exact yok30
  · exact yok31
  · exact yok32
  · exact yok33
  · exact yok34
  · exact yok35
  · exact yok36
  · exact yok37
  · exact yok38
  · exact yok39
  · exact yok40
  · exact yok41
  · exact yok42
  · exact yok43
  · exact yok44
  · exact yok45
  · exact yok46
  · exact yok47
  · exact yok48
  · exact yok49
theorem yokc2 : ∀ mi, 50 ≤ mi → mi < 75 → YOk mi := fun mi h1 h2 => by
  rcases (show mi = 50 ∨ mi = 51 ∨ mi = 52 ∨ mi = 53 ∨ mi = 54 ∨ mi = 55 ∨ mi = 56 ∨ mi = 57 ∨ mi = 58 ∨ mi = 59 ∨ mi = 60 ∨ mi = 61 ∨ mi = 62 ∨ mi = 63 ∨ mi = 64 ∨ mi = 65 ∨ mi = 66 ∨ mi = 67 ∨ mi = 68 ∨ mi = 69 ∨ mi = 70 ∨ mi = 71 ∨ mi = 72 ∨ mi = 73 ∨ mi = 74 by omega) with rfl | rfl | rfl | rfl | rfl | rfl | rfl | rfl | rfl | rfl | rfl | rfl | rfl | rfl | rfl | rfl | rfl | rfl | rfl | rfl | rfl | rfl | rfl | rfl | rfl
  · exact yok50
  · exact yok51
  · exact yok52
  · exact yok53
  · exact yok54
  · exact yok55
  · exact yok56
  · exact yok57
  · exact yok58
  · exact yok59
  · exact yok60
  · exact yok61
  · exact yok62
  · exact yok63
  · exact yok64
  · exact yok65
  · exact yok66
  · exact yok67
  · exact yok68
  · exact yok69
  · exact yok70
  · exact yok71
  · exact yok72
  · exact yok73
  · exact yok74
theorem yokc3 : ∀ mi, 75 ≤ mi → mi < 100 → YOk mi := fun mi h1 h2 => by
  rcases (show mi = 75 ∨ mi = 76 ∨ mi = 77 ∨ mi = 78 ∨ mi = 79 ∨ mi = 80 ∨ mi = 81 ∨ mi = 82 ∨ mi = 83 ∨ mi = 84 ∨ mi = 85 ∨ mi = 86 ∨ mi = 87 ∨ mi = 88 ∨ mi = 89 ∨ mi = 90 ∨ mi = 91 ∨ mi = 92 ∨ mi = 93 ∨ mi = 94 ∨ mi = 95 ∨ mi = 96 ∨ mi = 97 ∨ mi = 98 ∨ mi = 99 by omega) with rfl | rfl | rfl | rfl | rfl | rfl | rfl | rfl | rfl | rfl | rfl | rfl | rfl | rfl | rfl | rfl | rfl | rfl | rfl | rfl | rfl | rfl | rfl | rfl | rfl
  · exact yok75
  · exact yok76
  · exact yok77
  · exact yok78
  · exact yok79
  · exact yok80
  · exact yok81
  · exact yok82
  · exact yok83
  · exact yok84
  · exact yok85
  · exact yok86
  · exact yok87
  · exact yok88
  · exact yok89
  · exact yok90
  · exact yok91
  · exact yok92
  · exact yok93
  · exact yok94
  · exact yok95
  · exact yok96
  · exact yok97
  · exact yok98
  · exact yok99
theorem yokc4 : ∀ mi, 100 ≤ mi → mi < 125 → YOk mi := fun mi h1 h2 => by
  rcases (show mi = 100 ∨ mi = 101 ∨ mi = 102 ∨ mi = 103 ∨ mi = 104 ∨ mi = 105 ∨ mi = 106 ∨ mi = 107 ∨ mi = 108 ∨ mi = 109 ∨ mi = 110 ∨ mi = 111 ∨ mi = 112 ∨ mi = 113 ∨ mi = 114 ∨ mi = 115 ∨ mi = 116 ∨ mi = 117 ∨ mi = 118 ∨ mi = 119 ∨ mi = 120 ∨ mi = 121 ∨ mi = 122 ∨ mi = 123 ∨ mi = 124 by omega) with rfl | rfl | rfl | rfl | rfl | rfl | rfl | rfl | rfl | rfl | rfl | rfl | rfl | rfl | rfl | rfl | rfl | rfl | rfl | rfl | rfl | rfl | rfl | rfl | rfl
  · exact yok100
  · exact yok101
  · exact yok102
  · exact yok103
  · exact yok104
  · exact yok105
  · exact yok106
  · exact yok107
  · exact yok108
  · exact yok109
  · exact yok110
  · exact yok111
  · exact yok112
  · exact yok113
  · exact yok114
  · exact yok115
  · exact yok116
  · exact yok117
  · exact yok118
  · exact yok119
  · exact yok120
  · exact yok121
  · exact yok122
  · exact yok123
  · exact yok124
theorem yokc5 : ∀ mi, 125 ≤ mi → mi < 150 → YOk mi := fun mi h1 h2 => by
  rcases (show mi = 125 ∨ mi = 126 ∨ mi = 127 ∨ mi = 128 ∨ mi = 129 ∨ mi = 130 ∨ mi = 131 ∨ mi = 132 ∨ mi = 133 ∨ mi = 134 ∨ mi = 135 ∨ mi = 136 ∨ mi = 137 ∨ mi = 138 ∨ mi = 139 ∨ mi = 140 ∨ mi = 141 ∨ mi = 142 ∨ mi = 143 ∨ mi = 144 ∨ mi = 145 ∨ mi = 146 ∨ mi = 147 ∨ mi = 148 ∨ mi = 149 by omega) with rfl | rfl | rfl | rfl | rfl | rfl | rfl | rfl | rfl | rfl | rfl | rfl | rfl | rfl | rfl | rfl | rfl | rfl | rfl | rfl | rfl | rfl | rfl | rfl | rfl
  · exact yok125
  · exact yok126
  · exact yok127
  · exact yok128
  · exact yok129
  · exact yok130
  · exact yok131
  · exact yok132
  · exact yok133
  · exact yok134
  · exact yok135
  · exact yok136
  · exact yok137
  · exact yok138
  · exact yok139
  · exact yok140
  · exact yok141
  · exact yok142
  · exact yok143
  · exact yok144
  · exact yok145
  · exact yok146
  · exact yok147
  · exact yok148
  · exact yok149
theorem yokc6 : ∀ mi, 150 ≤ mi → mi < 175 → YOk mi := fun mi h1 h2 => by
  rcases (show mi = 150 ∨ mi = 151 ∨ mi = 152 ∨ mi = 153 ∨ mi = 154 ∨ mi = 155 ∨ mi = 156 ∨ mi = 157 ∨ mi = 158 ∨ mi = 159 ∨ mi = 160 ∨ mi = 161 ∨ mi = 162 ∨ mi = 163 ∨ mi = 164 ∨ mi = 165 ∨ mi = 166 ∨ mi = 167 ∨ mi = 168 ∨ mi = 169 ∨ mi = 170 ∨ mi = 171 ∨ mi = 172 ∨ mi = 173 ∨ mi = 174 by omega) with rfl | rfl | rfl | rfl | rfl | rfl | rfl | rfl | rfl | rfl | rfl | rfl | rfl | rfl | rfl | rfl | rfl | rfl | rfl | rfl | rfl | rfl | rfl | rfl | rfl
  · exact yok150
  · exact yok151
  · exact yok152
  · exact yok153
  · exact yok154
  · exact yok155
  · exact yok156
  · exact yok157
  · exact yok158
  · exact yok159
  · exact yok160
  · exact yok161
  · exact yok162
  · exact yok163
  · exact yok164
  · exact yok165
  · exact yok166
  · exact yok167
  · exact yok168
  · exact yok169
  · exact yok170
  · exact yok171
  · exact yok172
  · exact yok173
  · exact yok174
theorem yokc7 : ∀ mi, 175 ≤ mi → mi < 200 → YOk mi := fun mi h1 h2 => by
  rcases (show mi = 175 ∨ mi = 176 ∨ mi = 177 ∨ mi = 178 ∨ mi = 179 ∨ mi = 180 ∨ mi = 181 ∨ mi = 182 ∨ mi = 183 ∨ mi = 184 ∨ mi = 185 ∨ mi = 186 ∨ mi = 187 ∨ mi = 188 ∨ mi = 189 ∨ mi = 190 ∨ mi = 191 ∨ mi = 192 ∨ mi = 193 ∨ mi = 194 ∨ mi = 195 ∨ mi = 196 ∨ mi = 197 ∨ mi = 198 ∨ mi = 199 by omega) with rfl | rfl | rfl | rfl | rfl | rfl | rfl | rfl | rfl | rfl | rfl | rfl | rfl | rfl | rfl | rfl | rfl | rfl | rfl | rfl | rfl | rfl | rfl | rfl | rfl
  · exact yok175
  · exact yok176
  · exact yok177
  · exact yok178
  · exact yok179
  · exact yok180
  · exact yok181
  · exact yok182
  · exact yok183
  · exact yok184
  · exact yok185
  · exact yok186
  · exact yok187
  · exact yok188
  · exact yok189
  · exact yok190
  · exact yok191
  · exact yok192
  · exact yok193
  · exact yok194
  · exact yok195
  · exact yok196
  · exact yok197
  · exact yok198
  · exact yok199
theorem yokc8 : ∀ mi, 200 ≤ mi → mi < 225 → YOk mi := fun mi h1 h2 => by
  rcases (show mi = 200 ∨ mi = 201 ∨ mi = 202 ∨ mi = 203 ∨ mi = 204 ∨ mi = 205 ∨ mi = 206 ∨ mi = 207 ∨ mi = 208 ∨ mi = 209 ∨ mi = 210 ∨ mi = 211 ∨ mi = 212 ∨ mi = 213 ∨ mi = 214 ∨ mi = 215 ∨ mi = 216 ∨ mi = 217 ∨ mi = 218 ∨ mi = 219 ∨ mi = 220 ∨ mi = 221 ∨ mi = 222 ∨ mi = 223 ∨ mi = 224 by omega) with rfl | rfl | rfl | rfl | rfl | rfl | rfl | rfl | rfl | rfl | rfl | rfl | rfl | rfl | rfl | rfl | rfl | rfl | rfl | rfl | rfl | rfl | rfl | rfl | rfl
  · exact yok200
  · exact yok201
  · exact yok202
  · exact yok203
  · exact yok204
  · exact yok205
  · exact yok206
  · exact yok207
  · exact yok208
  · exact yok209
  · exact yok210
  · exact yok211
  · exact yok212
  · exact yok213
  · exact yok214
  · exact yok215
  · exact yok216
  · exact yok217
  · exact yok218
  · exact yok219
  · exact yok220
  · exact yok221
  · exact yok222
  · exact yok223
  · exact yok224
theorem yokc9 : ∀ mi, 225 ≤ mi → mi < 250 → YOk mi := fun mi h1 h2 => by
  rcases (show mi = 225 ∨ mi = 226 ∨ mi = 227 ∨ mi = 228 ∨ mi = 229 ∨ mi = 230 ∨ mi = 231 ∨ mi = 232 ∨ mi = 233 ∨ mi = 234 ∨ mi = 235 ∨ mi = 236 ∨ mi = 237 ∨ mi = 238 ∨ mi = 239 ∨ mi = 240 ∨ mi = 241 ∨ mi = 242 ∨ mi = 243 ∨ mi = 244 ∨ mi = 245 ∨ mi = 246 ∨ mi = 247 ∨ mi = 248 ∨ mi = 249 by omega) with rfl | rfl | rfl | rfl | rfl | rfl | rfl | rfl | rfl | rfl | rfl | rfl | rfl | rfl | rfl | rfl | rfl | rfl | rfl | rfl | rfl | rfl | rfl | rfl | rfl
  · exact yok225
  · exact yok226
  · exact yok227
  · exact yok228
  · exact yok229
  · exact yok230
  · exact yok231
  · exact yok232
  · exact yok233
  · exact yok234
  · exact yok235
  · exact yok236
  · exact yok237
  · exact yok238
  · exact yok239
  · exact yok240
  · exact yok241
  · exact yok242
  · exact yok243
  · exact yok244
  · exact yok245
  · exact yok246
  · exact yok247
  · exact yok248
  · exact yok249
theorem yokc10 : ∀ mi, 250 ≤ mi → mi < 275 → YOk mi := fun mi h1 h2 => by
  rcases (show mi = 250 ∨ mi = 251 ∨ mi = 252 ∨ mi = 253 ∨ mi = 254 ∨ mi = 255 ∨ mi = 256 ∨ mi = 257 ∨ mi = 258 ∨ mi = 259 ∨ mi = 260 ∨ mi = 261 ∨ mi = 262 ∨ mi = 263 ∨ mi = 264 ∨ mi = 265 ∨ mi = 266 ∨ mi = 267 ∨ mi = 268 ∨ mi = 269 ∨ mi = 270 ∨ mi = 271 ∨ mi = 272 ∨ mi = 273 ∨ mi = 274 by omega) with rfl | rfl | rfl | rfl | rfl | rfl | rfl | rfl | rfl | rfl | rfl | rfl | rfl | rfl | rfl | rfl | rfl | rfl | rfl | rfl | rfl | rfl | rfl | rfl | rfl
  · exact yok250
  · exact yok251
  · exact yok252
  · exact yok253
  · exact yok254
  · exact yok255
  · exact yok256
  · exact yok257
  · exact yok258
  · exact yok259
  · exact yok260
  · exact yok261
  · exact yok262
  · exact yok263
  · exact yok264
  · exact yok265
  · exact yok266
  · exact yok267
  · exact yok268
  · exact yok269
  · exact yok270
  · exact yok271
  · exact yok272
  · exact yok273
  · exact yok274
theorem yokc11 : ∀ mi, 275 ≤ mi → mi < 300 → YOk mi := fun mi h1 h2 => by
  rcases (show mi = 275 ∨ mi = 276 ∨ mi = 277 ∨ mi = 278 ∨ mi = 279 ∨ mi = 280 ∨ mi = 281 ∨ mi = 282 ∨ mi = 283 ∨ mi = 284 ∨ mi = 285 ∨ mi = 286 ∨ mi = 287 ∨ mi = 288 ∨ mi = 289 ∨ mi = 290 ∨ mi = 291 ∨ mi = 292 ∨ mi = 293 ∨ mi = 294 ∨ mi = 295 ∨ mi = 296 ∨ mi = 297 ∨ mi = 298 ∨ mi = 299 by omega) with rfl | rfl | rfl | rfl | rfl | rfl | rfl | rfl | rfl | rfl | rfl | rfl | rfl | rfl | rfl | rfl | rfl | rfl | rfl | rfl | rfl | rfl | rfl | rfl | rfl
  · exact yok275
  · exact yok276
  · exact yok277
  · exact yok278
  · exact yok279
  · exact yok280
  · exact yok281
  · exact yok282
  · exact yok283
  · exact yok284
  · exact yok285
  · exact yok286
  · exact yok287
  · exact yok288
  · exact yok289
  · exact yok290
  · exact yok291
  · exact yok292
  · exact yok293
  · exact yok294
  · exact yok295
  · exact yok296
  · exact yok297
  · exact yok298
  · exact yok299
theorem yokc12 : ∀ mi, 300 ≤ mi → mi < 325 → YOk mi := fun mi h1 h2 => by
  rcases (show mi = 300 ∨ mi = 301 ∨ mi = 302 ∨ mi = 303 ∨ mi = 304 ∨ mi = 305 ∨ mi = 306 ∨ mi = 307 ∨ mi = 308 ∨ mi = 309 ∨ mi = 310 ∨ mi = 311 ∨ mi = 312 ∨ mi = 313 ∨ mi = 314 ∨ mi = 315 ∨ mi = 316 ∨ mi = 317 ∨ mi = 318 ∨ mi = 319 ∨ mi = 320 ∨ mi = 321 ∨ mi = 322 ∨ mi = 323 ∨ mi = 324 by omega) with rfl | rfl | rfl | rfl | rfl | rfl | rfl | rfl | rfl | rfl | rfl | rfl | rfl | rfl | rfl | rfl | rfl | rfl | rfl | rfl | rfl | rfl | rfl | rfl | rfl
  · exact yok300
  · exact yok301
  · exact yok302
  · exact yok303
  · exact yok304
  · exact yok305
  · exact yok306
  · exact yok307
  · exact yok308
  · exact yok309
  · exact yok310
  · exact yok311
  · exact yok312
  · exact yok313
  · exact yok314
  · exact yok315
  · exact yok316
  · exact yok317
  · exact yok318
  · exact yok319
  · exact yok320
  · exact yok321
  · exact yok322
  · exact yok323
  · exact yok324
theorem yokc13 : ∀ mi, 325 ≤ mi → mi < 350 → YOk mi := fun mi h1 h2 => by
  rcases (show mi = 325 ∨ mi = 326 ∨ mi = 327 ∨ mi = 328 ∨ mi = 329 ∨ mi = 330 ∨ mi = 331 ∨ mi = 332 ∨ mi = 333 ∨ mi = 334 ∨ mi = 335 ∨ mi = 336 ∨ mi = 337 ∨ mi = 338 ∨ mi = 339 ∨ mi = 340 ∨ mi = 341 ∨ mi = 342 ∨ mi = 343 ∨ mi = 344 ∨ mi = 345 ∨ mi = 346 ∨ mi = 347 ∨ mi = 348 ∨ mi = 349 by omega) with rfl | rfl | rfl | rfl | rfl | rfl | rfl | rfl | rfl | rfl | rfl | rfl | rfl | rfl | rfl | rfl | rfl | rfl | rfl | rfl | rfl | rfl | rfl | rfl | rfl
  · exact yok325
  · exact yok326
  · exact yok327
  · exact yok328
  · exact yok329
  · exact yok330
  · exact yok331
  · exact yok332
  · exact yok333
  · exact yok334
  · exact yok335
  · exact yok336
  · exact yok337
  · exact yok338
  · exact yok339
  · exact yok340
  · exact yok341
  · exact yok342
  · exact yok343
  · exact yok344
  · exact yok345
  · exact yok346
  · exact yok347
  · exact yok348
  · exact yok349
theorem yokc14 : ∀ mi, 350 ≤ mi → mi < 372 → YOk mi := fun mi h1 h2 => by
  rcases (show mi = 350 ∨ mi = 351 ∨ mi = 352 ∨ mi = 353 ∨ mi = 354 ∨ mi = 355 ∨ mi = 356 ∨ mi = 357 ∨ mi = 358 ∨ mi = 359 ∨ mi = 360 ∨ mi = 361 ∨ mi = 362 ∨ mi = 363 ∨ mi = 364 ∨ mi = 365 ∨ mi = 366 ∨ mi = 367 ∨ mi = 368 ∨ mi = 369 ∨ mi = 370 ∨ mi = 371 by omega) with rfl | rfl | rfl | rfl | rfl | rfl | rfl | rfl | rfl | rfl | rfl | rfl | rfl | rfl | rfl | rfl | rfl | rfl | rfl | rfl | rfl | rfl
  · exact yok350
  · exact yok351
  · exact yok352
  · exact yok353
  · exact yok354
  · exact yok355
  · exact yok356
  · exact yok357
  · exact yok358
  · exact yok359
  · exact yok360
  · exact yok361
  · exact yok362
  · exact yok363
  · exact yok364
  · exact yok365
  · exact yok366
  · exact yok367
  · exact yok368
  · exact yok369
  · exact yok370
  · exact yok371
theorem yok_all (mi : Nat) (h : mi < 372) : YOk mi := by
  by_cases h0 : mi < 25
  · exact yokc0 mi (by omega) h0
  by_cases h1 : mi < 50
  · exact yokc1 mi (by omega) h1
  by_cases h2 : mi < 75
  · exact yokc2 mi (by omega) h2
  by_cases h3 : mi < 100
  · exact yokc3 mi (by omega) h3
  by_cases h4 : mi < 125
  · exact yokc4 mi (by omega) h4
  by_cases h5 : mi < 150
  · exact yokc5 mi (by omega) h5
  by_cases h6 : mi < 175
  · exact yokc6 mi (by omega) h6
  by_cases h7 : mi < 200
  · exact yokc7 mi (by omega) h7
  by_cases h8 : mi < 225
  · exact yokc8 mi (by omega) h8
  by_cases h9 : mi < 250
  · exact yokc9 mi (by omega) h9
  by_cases h10 : mi < 275
  · exact yokc10 mi (by omega) h10
  by_cases h11 : mi < 300
  · exact yokc11 mi (by omega) h11
  by_cases h12 : mi < 325
  · exact yokc12 mi (by omega) h12
  by_cases h13 : mi < 350
  · exact yokc13 mi (by omega) h13
  by_cases h14 : mi < 372
  · exact yokc14 mi (by omega) h14
  omega
