/-! what the tables say of methods and links: by program, by places -/
def ynms : List MethodName := [⟨"java/lang/Math", "abs", "(I)I"⟩,
  ⟨"java/lang/Math", "max", "(II)I"⟩,
  ⟨"java/lang/Math", "min", "(II)I"⟩,
  ⟨"java/lang/Integer", "bitCount", "(I)I"⟩,
  ⟨"java/util/Arrays", "fill", "([II)V"⟩,
  ⟨"jdk/internal/util/Preconditions", "checkIndex", "(IILjava/util/function/BiFunction;)I"⟩,
  ⟨"java/lang/StringLatin1", "charAt", "([BI)C"⟩,
  ⟨"java/lang/String", "length", "()I"⟩,
  ⟨"java/lang/String", "charAt", "(I)C"⟩,
  ⟨"java/lang/String", "coder", "()B"⟩,
  ⟨"java/lang/String", "isLatin1", "()Z"⟩,
  ⟨"java/lang/String", "checkIndex", "(II)V"⟩,
  ⟨"DimpleWells$Tape", "<init>", "()V"⟩,
  ⟨"DimpleWells$Tape", "hasRoom", "(I)Z"⟩,
  ⟨"DimpleWells$Tape", "put", "(I)V"⟩,
  ⟨"DimpleWells$Tape", "drop", "()V"⟩,
  ⟨"DimpleWells$Tape", "open", "(I)V"⟩,
  ⟨"DimpleWells$Tape", "next", "()V"⟩,
  ⟨"DimpleWells$Tape", "isSign", "(C)Z"⟩,
  ⟨"DimpleWells$Tape", "atEnd", "()Z"⟩,
  ⟨"DimpleWells$Tape", "take", "(C)Z"⟩,
  ⟨"DimpleWells$Tape", "takeNumber", "(II)I"⟩,
  ⟨"DimpleWells$Tape", "wordOf", "(Ljava/lang/String;)I"⟩,
  ⟨"DimpleWells$Tape", "fail", "(II)Z"⟩,
  ⟨"DimpleWells$Days", "<init>", "()V"⟩,
  ⟨"DimpleWells$Days", "begin", "(I)V"⟩,
  ⟨"DimpleWells$Days", "copy", "(LDimpleWells$Days;)V"⟩,
  ⟨"DimpleWells$Days", "dayNumber", "()I"⟩,
  ⟨"DimpleWells$Days", "jugWater", "()I"⟩,
  ⟨"DimpleWells$Days", "toldBits", "()I"⟩,
  ⟨"DimpleWells$Days", "wasTold", "(I)Z"⟩,
  ⟨"DimpleWells$Days", "griefOf", "(I)I"⟩,
  ⟨"DimpleWells$Days", "thirstOf", "(I)I"⟩,
  ⟨"DimpleWells$Days", "timesOf", "(I)I"⟩,
  ⟨"DimpleWells$Days", "laughedOf", "(I)I"⟩,
  ⟨"DimpleWells$Days", "toldOf", "(I)I"⟩,
  ⟨"DimpleWells$Days", "wornOf", "(II)I"⟩,
  ⟨"DimpleWells$Days", "grieving", "()I"⟩,
  ⟨"DimpleWells$Days", "thirsty", "()I"⟩,
  ⟨"DimpleWells$Days", "allThirst", "()I"⟩,
  ⟨"DimpleWells$Days", "thirstUpTo", "(II)I"⟩,
  ⟨"DimpleWells$Days", "hear", "(IIII)V"⟩,
  ⟨"DimpleWells$Days", "grieve", "(II)Z"⟩,
  ⟨"DimpleWells$Days", "cheer", "(I)Z"⟩,
  ⟨"DimpleWells$Days", "pour", "(I)Z"⟩,
  ⟨"DimpleWells$Days", "passDay", "(LDimpleWells$Land;)V"⟩,
  ⟨"DimpleWells$Land", "<init>", "()V"⟩,
  ⟨"DimpleWells$Land", "read", "(LDimpleWells$Tape;)Z"⟩,
  ⟨"DimpleWells$Land", "readClause", "(LDimpleWells$Tape;I)Z"⟩,
  ⟨"DimpleWells$Land", "isFull", "(I)Z"⟩,
  ⟨"DimpleWells$Land", "readNumbers", "(LDimpleWells$Tape;I)Z"⟩,
  ⟨"DimpleWells$Land", "readPerson", "(LDimpleWells$Tape;)Z"⟩,
  ⟨"DimpleWells$Land", "readJoke", "(LDimpleWells$Tape;)Z"⟩,
  ⟨"DimpleWells$Land", "readStreet", "(LDimpleWells$Tape;)Z"⟩,
  ⟨"DimpleWells$Land", "allPersons", "()I"⟩,
  ⟨"DimpleWells$Land", "withNear", "(I)I"⟩,
  ⟨"DimpleWells$Land", "reachedFrom", "(I)I"⟩,
  ⟨"DimpleWells$Land", "streetsBetween", "(II)I"⟩,
  ⟨"DimpleWells$Land", "fewestBy", "(I)I"⟩,
  ⟨"DimpleWells$Law", "<init>", "()V"⟩,
  ⟨"DimpleWells$Law", "makeStandard", "()V"⟩,
  ⟨"DimpleWells$Law", "read", "(LDimpleWells$Tape;)Z"⟩,
  ⟨"DimpleWells$Law", "readSum", "(LDimpleWells$Tape;I)Z"⟩,
  ⟨"DimpleWells$Law", "readProduct", "(LDimpleWells$Tape;I)Z"⟩,
  ⟨"DimpleWells$Law", "productCode", "(LDimpleWells$Tape;)I"⟩,
  ⟨"DimpleWells$Law", "readUnit", "(LDimpleWells$Tape;I)Z"⟩,
  ⟨"DimpleWells$Law", "add", "(I)Z"⟩,
  ⟨"DimpleWells$Law", "valueBy", "([I)I"⟩,
  ⟨"DimpleWells$Law", "joined", "(III)I"⟩,
  ⟨"DimpleWells$Scene", "<init>", "()V"⟩,
  ⟨"DimpleWells$Scene", "laughAsGiven", "()I"⟩,
  ⟨"DimpleWells$Scene", "giveAll", "(LDimpleWells$Days;II)V"⟩,
  ⟨"DimpleWells$Scene", "laughOf", "(LDimpleWells$Days;II)I"⟩,
  ⟨"DimpleWells$Scene", "waterOf", "(LDimpleWells$Days;II)I"⟩,
  ⟨"DimpleWells$Scene", "tell", "(LDimpleWells$Days;II)I"⟩,
  ⟨"DimpleWells$Scene", "laughTillDry", "(LDimpleWells$Days;IIZ)I"⟩,
  ⟨"DimpleWells$Steps", "<init>", "()V"⟩,
  ⟨"DimpleWells$Steps", "read", "(LDimpleWells$Tape;LDimpleWells$Land;)Z"⟩,
  ⟨"DimpleWells$Steps", "readBlock", "(LDimpleWells$Tape;LDimpleWells$Land;I)Z"⟩,
  ⟨"DimpleWells$Steps", "readStep", "(LDimpleWells$Tape;LDimpleWells$Land;I)Z"⟩,
  ⟨"DimpleWells$Steps", "readNumbers", "(LDimpleWells$Tape;LDimpleWells$Land;I)Z"⟩,
  ⟨"DimpleWells$Steps", "readFirst", "(LDimpleWells$Tape;III)Z"⟩,
  ⟨"DimpleWells$Steps", "readSecond", "(LDimpleWells$Tape;III)Z"⟩,
  ⟨"DimpleWells$Steps", "run", "(LDimpleWells$Scene;LDimpleWells$Days;)V"⟩,
  ⟨"DimpleWells$Steps", "runRows", "(LDimpleWells$Scene;LDimpleWells$Days;III)V"⟩,
  ⟨"DimpleWells$Steps", "isDone", "(LDimpleWells$Scene;LDimpleWells$Days;I)Z"⟩,
  ⟨"DimpleWells$Book", "<init>", "()V"⟩,
  ⟨"DimpleWells$Book", "clear", "()V"⟩,
  ⟨"DimpleWells$Book", "read", "(LDimpleWells$Tape;I)Z"⟩,
  ⟨"DimpleWells$Book", "readLine", "(LDimpleWells$Tape;I)Z"⟩,
  ⟨"DimpleWells$History", "<init>", "()V"⟩,
  ⟨"DimpleWells$History", "clear", "()V"⟩,
  ⟨"DimpleWells$History", "isFull", "()Z"⟩,
  ⟨"DimpleWells$History", "push", "(LDimpleWells$Days;)V"⟩,
  ⟨"DimpleWells$History", "pop", "(LDimpleWells$Days;)Z"⟩,
  ⟨"DimpleWells$History", "keep", "(LDimpleWells$Days;)Z"⟩,
  ⟨"DimpleWells$History", "bring", "(LDimpleWells$Days;)Z"⟩,
  ⟨"DimpleWells$Plan", "<init>", "()V"⟩,
  ⟨"DimpleWells$Plan", "giveBest", "(LDimpleWells$Scene;LDimpleWells$Days;)I"⟩,
  ⟨"DimpleWells$Plan", "mostBy", "(III)I"⟩,
  ⟨"DimpleWells$Plan", "withGiven", "(III)I"⟩,
  ⟨"DimpleWells$Plan", "choose", "(LDimpleWells$Land;I)V"⟩,
  ⟨"DimpleWells$Plan", "fewestFor", "(LDimpleWells$Scene;LDimpleWells$Days;I)I"⟩,
  ⟨"DimpleWells$Plan", "waterOfAll", "(II)I"⟩,
  ⟨"DimpleWells$Guess", "<init>", "()V"⟩,
  ⟨"DimpleWells$Guess", "findPairs", "(LDimpleWells$Scene;LDimpleWells$Days;LDimpleWells$Book;I)V"⟩,
  ⟨"DimpleWells$Guess", "keepPairs", "(LDimpleWells$Scene;LDimpleWells$Days;III)V"⟩,
  ⟨"DimpleWells$Guess", "laughBy", "(LDimpleWells$Scene;II)I"⟩,
  ⟨"DimpleWells$Guess", "findJoke", "(LDimpleWells$Scene;LDimpleWells$Days;LDimpleWells$Book;I)V"⟩,
  ⟨"DimpleWells$Guess", "leftAtWorst", "(LDimpleWells$Scene;I)I"⟩,
  ⟨"DimpleWells$Years", "<init>", "()V"⟩,
  ⟨"DimpleWells$Years", "run", "(LDimpleWells$Scene;LDimpleWells$Days;III)V"⟩,
  ⟨"DimpleWells$Years", "tellByLot", "(LDimpleWells$Scene;LDimpleWells$Days;I)V"⟩,
  ⟨"DimpleWells$Years", "draw", "(I)I"⟩,
  ⟨"DimpleWells", "<init>", "()V"⟩,
  ⟨"DimpleWells", "feed", "(IIIII)I"⟩,
  ⟨"DimpleWells", "land", "(I)I"⟩,
  ⟨"DimpleWells", "law", "(I)I"⟩,
  ⟨"DimpleWells", "work", "(I)I"⟩,
  ⟨"DimpleWells", "book", "(I)I"⟩,
  ⟨"DimpleWells", "fault", "()I"⟩,
  ⟨"DimpleWells", "undo", "()I"⟩,
  ⟨"DimpleWells", "told", "(I)I"⟩,
  ⟨"DimpleWells", "person", "(II)I"⟩,
  ⟨"DimpleWells", "joke", "(II)I"⟩,
  ⟨"DimpleWells", "street", "(II)I"⟩,
  ⟨"DimpleWells", "worn", "(II)I"⟩,
  ⟨"DimpleWells", "laugh", "(II)I"⟩,
  ⟨"DimpleWells", "water", "(II)I"⟩,
  ⟨"DimpleWells", "would", "(IIIIIIIIII)I"⟩,
  ⟨"DimpleWells", "ahead", "(II)I"⟩,
  ⟨"DimpleWells", "best", "()I"⟩,
  ⟨"DimpleWells", "given", "(I)I"⟩,
  ⟨"DimpleWells", "enough", "(I)I"⟩,
  ⟨"DimpleWells", "lasts", "(II)I"⟩,
  ⟨"DimpleWells", "well", "(II)I"⟩,
  ⟨"DimpleWells", "fits", "(II)I"⟩,
  ⟨"DimpleWells", "look", "(II)I"⟩,
  ⟨"DimpleWells", "comfort", "()I"⟩,
  ⟨"DimpleWells", "way", "(II)I"⟩,
  ⟨"DimpleWells", "dry", "()I"⟩,
  ⟨"DimpleWells", "comedians", "(IIII)I"⟩,
  ⟨"DimpleWells", "some", "(IIII)J"⟩,
  ⟨"DimpleWells", "share", "(III)I"⟩,
  ⟨"DimpleWells", "likes", "(II)I"⟩,
  ⟨"DimpleWells", "solemn", "(I)I"⟩,
  ⟨"DimpleWells", "driest", "(I)I"⟩,
  ⟨"DimpleWells", "parts", "()I"⟩,
  ⟨"DimpleWells", "alike", "(I)I"⟩,
  ⟨"DimpleWells", "year", "(IIII)I"⟩,
  ⟨"DimpleWells", "span", "(IIIIII)I"⟩,
  ⟨"DimpleWells", "image", "()I"⟩,
  ⟨"DimpleWells", "restore", "()I"⟩,
  ⟨"DimpleWells", "status", "(I)I"⟩,
  ⟨"DimpleWells", "count", "(I)I"⟩,
  ⟨"DimpleWells", "needRange", "(III)I"⟩,
  ⟨"DimpleWells", "needPerson", "(I)V"⟩,
  ⟨"DimpleWells", "needJoke", "(I)V"⟩,
  ⟨"DimpleWells", "needJokeAndPerson", "(II)V"⟩,
  ⟨"DimpleWells", "staysAt", "(IIIII)Z"⟩,
  ⟨"DimpleWells", "shareOfFame", "(IIII)I"⟩,
  ⟨"DimpleWells", "power", "(II)J"⟩,
  ⟨"DimpleWellsModel", "<init>", "()V"⟩,
  ⟨"DimpleWellsModel", "tellsNothing", "()V"⟩,
  ⟨"DimpleWellsModel", "thrown", "()I"⟩,
  ⟨"DimpleWellsModel", "bad", "(ZII)Z"⟩,
  ⟨"DimpleWellsModel", "in", "(III)Z"⟩,
  ⟨"DimpleWellsModel", "less", "(II)I"⟩,
  ⟨"DimpleWellsModel", "more", "(II)I"⟩,
  ⟨"DimpleWellsModel", "has", "(II)Z"⟩,
  ⟨"DimpleWellsModel", "feed", "(IIIII)I"⟩,
  ⟨"DimpleWellsModel", "byteAt", "(I)I"⟩,
  ⟨"DimpleWellsModel", "blanks", "()V"⟩,
  ⟨"DimpleWellsModel", "wrong", "(II)V"⟩,
  ⟨"DimpleWellsModel", "isDigit", "(I)Z"⟩,
  ⟨"DimpleWellsModel", "isSmall", "(I)Z"⟩,
  ⟨"DimpleWellsModel", "number", "(II)I"⟩,
  ⟨"DimpleWellsModel", "wordHere", "()I"⟩,
  ⟨"DimpleWellsModel", "six", "(IIIIII)I"⟩,
  ⟨"DimpleWellsModel", "isWord", "(IIIIII)Z"⟩,
  ⟨"DimpleWellsModel", "skipWord", "()V"⟩,
  ⟨"DimpleWellsModel", "takes", "(IIIIII)Z"⟩,
  ⟨"DimpleWellsModel", "sign", "(I)V"⟩,
  ⟨"DimpleWellsModel", "takesSign", "(I)Z"⟩,
  ⟨"DimpleWellsModel", "starts", "(I)V"⟩,
  ⟨"DimpleWellsModel", "ends", "()I"⟩,
  ⟨"DimpleWellsModel", "isSeven", "(II)Z"⟩,
  ⟨"DimpleWellsModel", "kindHere", "()I"⟩,
  ⟨"DimpleWellsModel", "mostOf", "(I)I"⟩,
  ⟨"DimpleWellsModel", "isReadStreet", "(II)Z"⟩,
  ⟨"DimpleWellsModel", "clause", "()V"⟩,
  ⟨"DimpleWellsModel", "land", "(I)I"⟩,
  ⟨"DimpleWellsModel", "lays", "([[I[[II)V"⟩,
  ⟨"DimpleWellsModel", "copies", "([I[I)V"⟩,
  ⟨"DimpleWellsModel", "beginsAnew", "()V"⟩,
  ⟨"DimpleWellsModel", "notes", "(II)V"⟩,
  ⟨"DimpleWellsModel", "opensOne", "()Z"⟩,
  ⟨"DimpleWellsModel", "sum", "()V"⟩,
  ⟨"DimpleWellsModel", "product", "()V"⟩,
  ⟨"DimpleWellsModel", "knownHere", "()I"⟩,
  ⟨"DimpleWellsModel", "one", "()V"⟩,
  ⟨"DimpleWellsModel", "law", "(I)I"⟩,
  ⟨"DimpleWellsModel", "by", "(III)I"⟩,
  ⟨"DimpleWellsModel", "byLaw", "()I"⟩,
  ⟨"DimpleWellsModel", "stepHere", "()I"⟩,
  ⟨"DimpleWellsModel", "readsStep", "()V"⟩,
  ⟨"DimpleWellsModel", "book", "(I)I"⟩,
  ⟨"DimpleWellsModel", "fault", "()I"⟩,
  ⟨"DimpleWellsModel", "laughBy", "(IIIIIIIIII)I"⟩,
  ⟨"DimpleWellsModel", "ones", "(I)I"⟩,
  ⟨"DimpleWellsModel", "nearTo", "(I)I"⟩,
  ⟨"DimpleWellsModel", "whoHas", "([II)I"⟩,
  ⟨"DimpleWellsModel", "toldIn", "([II)I"⟩,
  ⟨"DimpleWellsModel", "laughWith", "([IIIIII)I"⟩,
  ⟨"DimpleWellsModel", "laughOf", "([III)I"⟩,
  ⟨"DimpleWellsModel", "waterOf", "([III)I"⟩,
  ⟨"DimpleWellsModel", "tells", "([III)Z"⟩,
  ⟨"DimpleWellsModel", "grieves", "([III)Z"⟩,
  ⟨"DimpleWellsModel", "dayEnds", "([I)V"⟩,
  ⟨"DimpleWellsModel", "does", "([I[I)Z"⟩,
  ⟨"DimpleWellsModel", "goes", "(II)V"⟩,
  ⟨"DimpleWellsModel", "work", "(I)I"⟩,
  ⟨"DimpleWellsModel", "undo", "()I"⟩,
  ⟨"DimpleWellsModel", "sumOf", "([II)I"⟩,
  ⟨"DimpleWellsModel", "told", "(I)I"⟩,
  ⟨"DimpleWellsModel", "isPerson", "(I)Z"⟩,
  ⟨"DimpleWellsModel", "isJoke", "(I)Z"⟩,
  ⟨"DimpleWellsModel", "isNone", "(II)Z"⟩,
  ⟨"DimpleWellsModel", "person", "(II)I"⟩,
  ⟨"DimpleWellsModel", "joke", "(II)I"⟩,
  ⟨"DimpleWellsModel", "street", "(II)I"⟩,
  ⟨"DimpleWellsModel", "worn", "(II)I"⟩,
  ⟨"DimpleWellsModel", "laugh", "(II)I"⟩,
  ⟨"DimpleWellsModel", "water", "(II)I"⟩,
  ⟨"DimpleWellsModel", "would", "(IIIIIIIIII)I"⟩,
  ⟨"DimpleWellsModel", "ahead", "(II)I"⟩,
  ⟨"DimpleWellsModel", "dry", "()I"⟩,
  ⟨"DimpleWellsModel", "givesFrom", "(III)V"⟩,
  ⟨"DimpleWellsModel", "gives", "()V"⟩,
  ⟨"DimpleWellsModel", "best", "()I"⟩,
  ⟨"DimpleWellsModel", "given", "(I)I"⟩,
  ⟨"DimpleWellsModel", "mostOfOne", "(I)I"⟩,
  ⟨"DimpleWellsModel", "enough", "(I)I"⟩,
  ⟨"DimpleWellsModel", "untilNone", "(IIZ)I"⟩,
  ⟨"DimpleWellsModel", "lasts", "(II)I"⟩,
  ⟨"DimpleWellsModel", "well", "(II)I"⟩,
  ⟨"DimpleWellsModel", "isTaste", "(III)Z"⟩,
  ⟨"DimpleWellsModel", "fits", "(II)I"⟩,
  ⟨"DimpleWellsModel", "isTold", "(I)Z"⟩,
  ⟨"DimpleWellsModel", "worstAt", "(II)I"⟩,
  ⟨"DimpleWellsModel", "look", "(II)I"⟩,
  ⟨"DimpleWellsModel", "comfort", "()I"⟩,
  ⟨"DimpleWellsModel", "further", "(I)I"⟩,
  ⟨"DimpleWellsModel", "way", "(II)I"⟩,
  ⟨"DimpleWellsModel", "parts", "()I"⟩,
  ⟨"DimpleWellsModel", "hasBy", "(IIII)I"⟩,
  ⟨"DimpleWellsModel", "isBest", "(IIIII)Z"⟩,
  ⟨"DimpleWellsModel", "comedians", "(IIII)I"⟩,
  ⟨"DimpleWellsModel", "some", "(IIII)J"⟩,
  ⟨"DimpleWellsModel", "givenBy", "(II)I"⟩,
  ⟨"DimpleWellsModel", "share", "(III)I"⟩,
  ⟨"DimpleWellsModel", "likes", "(II)I"⟩,
  ⟨"DimpleWellsModel", "solemn", "(I)I"⟩,
  ⟨"DimpleWellsModel", "driest", "(I)I"⟩,
  ⟨"DimpleWellsModel", "alike", "(I)I"⟩,
  ⟨"DimpleWellsModel", "draw", "(I)I"⟩,
  ⟨"DimpleWellsModel", "yearBy", "(III)V"⟩,
  ⟨"DimpleWellsModel", "isYear", "(II)Z"⟩,
  ⟨"DimpleWellsModel", "year", "(IIII)I"⟩,
  ⟨"DimpleWellsModel", "span", "(IIIIII)I"⟩,
  ⟨"DimpleWellsModel", "puts", "([IIZ)I"⟩,
  ⟨"DimpleWellsModel", "putsAll", "([IZ)V"⟩,
  ⟨"DimpleWellsModel", "image", "()I"⟩,
  ⟨"DimpleWellsModel", "restore", "()I"⟩,
  ⟨"DimpleWellsModel", "status", "(I)I"⟩,
  ⟨"DimpleWellsModel", "count", "(I)I"⟩,
  ⟨"DimpleWellsLaw", "land", "(LDimpleWells;I[J)I"⟩,
  ⟨"DimpleWellsLaw", "law", "(LDimpleWells;I[J)I"⟩,
  ⟨"DimpleWellsLaw", "work", "(LDimpleWells;I[J)I"⟩,
  ⟨"DimpleWellsLaw", "book", "(LDimpleWells;I[J)I"⟩,
  ⟨"DimpleWellsLaw", "told", "(LDimpleWells;I[J)I"⟩,
  ⟨"DimpleWellsLaw", "person", "(LDimpleWells;II[J)I"⟩,
  ⟨"DimpleWellsLaw", "joke", "(LDimpleWells;II[J)I"⟩,
  ⟨"DimpleWellsLaw", "street", "(LDimpleWells;II[J)I"⟩,
  ⟨"DimpleWellsLaw", "worn", "(LDimpleWells;II[J)I"⟩,
  ⟨"DimpleWellsLaw", "laugh", "(LDimpleWells;II[J)I"⟩,
  ⟨"DimpleWellsLaw", "water", "(LDimpleWells;II[J)I"⟩,
  ⟨"DimpleWellsLaw", "would", "(LDimpleWells;IIIIIIIIII[J)I"⟩,
  ⟨"DimpleWellsLaw", "ahead", "(LDimpleWells;II[J)I"⟩,
  ⟨"DimpleWellsLaw", "given", "(LDimpleWells;I[J)I"⟩,
  ⟨"DimpleWellsLaw", "enough", "(LDimpleWells;I[J)I"⟩,
  ⟨"DimpleWellsLaw", "lasts", "(LDimpleWells;II[J)I"⟩,
  ⟨"DimpleWellsLaw", "well", "(LDimpleWells;II[J)I"⟩,
  ⟨"DimpleWellsLaw", "fits", "(LDimpleWells;II[J)I"⟩,
  ⟨"DimpleWellsLaw", "look", "(LDimpleWells;II[J)I"⟩,
  ⟨"DimpleWellsLaw", "way", "(LDimpleWells;II[J)I"⟩,
  ⟨"DimpleWellsLaw", "comedians", "(LDimpleWells;IIII[J)I"⟩,
  ⟨"DimpleWellsLaw", "some", "(LDimpleWells;IIII[J)I"⟩,
  ⟨"DimpleWellsLaw", "share", "(LDimpleWells;III[J)I"⟩,
  ⟨"DimpleWellsLaw", "likes", "(LDimpleWells;II[J)I"⟩,
  ⟨"DimpleWellsLaw", "solemn", "(LDimpleWells;I[J)I"⟩,
  ⟨"DimpleWellsLaw", "driest", "(LDimpleWells;I[J)I"⟩,
  ⟨"DimpleWellsLaw", "alike", "(LDimpleWells;I[J)I"⟩,
  ⟨"DimpleWellsLaw", "year", "(LDimpleWells;IIII[J)I"⟩,
  ⟨"DimpleWellsLaw", "span", "(LDimpleWells;IIIIII[J)I"⟩,
  ⟨"DimpleWells$Days", "personsWith", "(I)I"⟩,
  ⟨"DimpleWellsLaw", "law", "([I)Z"⟩]
def yn (m : Nat) : MethodName := ynms.getD m ⟨"", "", ""⟩
def ybs : List ByteArray := [prog_21_method_59_code, prog_21_method_65_code, prog_21_method_69_code, prog_20_method_49_code, prog_30_method_103_code, prog_32_method_11_code, prog_24_method_2_code, prog_23_method_54_code, prog_23_method_56_code, prog_23_method_152_code, prog_23_method_154_code, prog_23_method_155_code, prog_11_method_1_code, prog_11_method_2_code, prog_11_method_3_code, prog_11_method_4_code, prog_11_method_5_code, prog_11_method_6_code, prog_11_method_7_code, prog_11_method_8_code, prog_11_method_9_code, prog_11_method_10_code, prog_11_method_11_code, prog_11_method_12_code, prog_3_method_1_code, prog_3_method_2_code, prog_3_method_3_code, prog_3_method_4_code, prog_3_method_5_code, prog_3_method_6_code, prog_3_method_7_code, prog_3_method_8_code, prog_3_method_9_code, prog_3_method_10_code, prog_3_method_11_code, prog_3_method_12_code, prog_3_method_13_code, prog_3_method_14_code, prog_3_method_15_code, prog_3_method_17_code, prog_3_method_18_code, prog_3_method_19_code, prog_3_method_20_code, prog_3_method_21_code, prog_3_method_22_code, prog_3_method_23_code, prog_6_method_1_code, prog_6_method_2_code, prog_6_method_3_code, prog_6_method_4_code, prog_6_method_5_code, prog_6_method_6_code, prog_6_method_7_code, prog_6_method_8_code, prog_6_method_9_code, prog_6_method_10_code, prog_6_method_11_code, prog_6_method_12_code, prog_6_method_13_code, prog_7_method_1_code, prog_7_method_2_code, prog_7_method_3_code, prog_7_method_4_code, prog_7_method_5_code, prog_7_method_6_code, prog_7_method_7_code, prog_7_method_8_code, prog_7_method_9_code, prog_7_method_10_code, prog_9_method_1_code, prog_9_method_2_code, prog_9_method_3_code, prog_9_method_4_code, prog_9_method_5_code, prog_9_method_6_code, prog_9_method_7_code, prog_10_method_1_code, prog_10_method_2_code, prog_10_method_3_code, prog_10_method_4_code, prog_10_method_5_code, prog_10_method_6_code, prog_10_method_7_code, prog_10_method_8_code, prog_10_method_9_code, prog_10_method_10_code, prog_2_method_1_code, prog_2_method_2_code, prog_2_method_3_code, prog_2_method_4_code, prog_5_method_1_code, prog_5_method_2_code, prog_5_method_3_code, prog_5_method_4_code, prog_5_method_5_code, prog_5_method_6_code, prog_5_method_7_code, prog_8_method_1_code, prog_8_method_2_code, prog_8_method_3_code, prog_8_method_4_code, prog_8_method_5_code, prog_8_method_6_code, prog_8_method_7_code, prog_4_method_1_code, prog_4_method_2_code, prog_4_method_3_code, prog_4_method_4_code, prog_4_method_5_code, prog_4_method_6_code, prog_12_method_1_code, prog_12_method_2_code, prog_12_method_3_code, prog_12_method_4_code, prog_1_method_1_code, prog_1_method_2_code, prog_1_method_3_code, prog_1_method_4_code, prog_1_method_5_code, prog_1_method_6_code, prog_1_method_7_code, prog_1_method_8_code, prog_1_method_9_code, prog_1_method_10_code, prog_1_method_11_code, prog_1_method_12_code, prog_1_method_13_code, prog_1_method_14_code, prog_1_method_15_code, prog_1_method_16_code, prog_1_method_17_code, prog_1_method_18_code, prog_1_method_19_code, prog_1_method_20_code, prog_1_method_21_code, prog_1_method_22_code, prog_1_method_23_code, prog_1_method_24_code, prog_1_method_25_code, prog_1_method_26_code, prog_1_method_27_code, prog_1_method_28_code, prog_1_method_29_code, prog_1_method_30_code, prog_1_method_31_code, prog_1_method_32_code, prog_1_method_33_code, prog_1_method_34_code, prog_1_method_35_code, prog_1_method_36_code, prog_1_method_37_code, prog_1_method_38_code, prog_1_method_39_code, prog_1_method_40_code, prog_1_method_41_code, prog_1_method_42_code, prog_1_method_43_code, prog_1_method_44_code, prog_1_method_45_code, prog_1_method_46_code, prog_1_method_47_code, prog_1_method_48_code, prog_14_method_1_code, prog_14_method_2_code, prog_14_method_3_code, prog_14_method_4_code, prog_14_method_5_code, prog_14_method_6_code, prog_14_method_7_code, prog_14_method_8_code, prog_14_method_9_code, prog_14_method_10_code, prog_14_method_11_code, prog_14_method_12_code, prog_14_method_13_code, prog_14_method_14_code, prog_14_method_15_code, prog_14_method_16_code, prog_14_method_17_code, prog_14_method_18_code, prog_14_method_19_code, prog_14_method_20_code, prog_14_method_21_code, prog_14_method_22_code, prog_14_method_23_code, prog_14_method_24_code, prog_14_method_25_code, prog_14_method_26_code, prog_14_method_27_code, prog_14_method_28_code, prog_14_method_29_code, prog_14_method_30_code, prog_14_method_31_code, prog_14_method_32_code, prog_14_method_33_code, prog_14_method_34_code, prog_14_method_35_code, prog_14_method_36_code, prog_14_method_37_code, prog_14_method_38_code, prog_14_method_39_code, prog_14_method_40_code, prog_14_method_41_code, prog_14_method_42_code, prog_14_method_43_code, prog_14_method_44_code, prog_14_method_45_code, prog_14_method_46_code, prog_14_method_47_code, prog_14_method_48_code, prog_14_method_49_code, prog_14_method_50_code, prog_14_method_51_code, prog_14_method_52_code, prog_14_method_53_code, prog_14_method_54_code, prog_14_method_55_code, prog_14_method_56_code, prog_14_method_57_code, prog_14_method_58_code, prog_14_method_59_code, prog_14_method_60_code, prog_14_method_61_code, prog_14_method_62_code, prog_14_method_63_code, prog_14_method_64_code, prog_14_method_65_code, prog_14_method_66_code, prog_14_method_67_code, prog_14_method_68_code, prog_14_method_69_code, prog_14_method_70_code, prog_14_method_71_code, prog_14_method_72_code, prog_14_method_73_code, prog_14_method_74_code, prog_14_method_75_code, prog_14_method_76_code, prog_14_method_77_code, prog_14_method_78_code, prog_14_method_79_code, prog_14_method_80_code, prog_14_method_81_code, prog_14_method_82_code, prog_14_method_83_code, prog_14_method_84_code, prog_14_method_85_code, prog_14_method_86_code, prog_14_method_87_code, prog_14_method_88_code, prog_14_method_89_code, prog_14_method_90_code, prog_14_method_91_code, prog_14_method_92_code, prog_14_method_93_code, prog_14_method_94_code, prog_14_method_95_code, prog_14_method_96_code, prog_14_method_97_code, prog_14_method_98_code, prog_14_method_99_code, prog_14_method_100_code, prog_14_method_101_code, prog_14_method_102_code, prog_14_method_103_code, prog_14_method_104_code, prog_14_method_105_code, prog_14_method_106_code, prog_14_method_107_code, prog_14_method_108_code, prog_14_method_109_code, prog_14_method_110_code, prog_14_method_111_code, prog_14_method_112_code, prog_14_method_113_code, prog_14_method_114_code, method_3_code, method_4_code, method_5_code, method_6_code, method_7_code, method_8_code, method_9_code, method_10_code, method_11_code, method_12_code, method_13_code, method_14_code, method_15_code, method_16_code, method_17_code, method_18_code, method_19_code, method_20_code, method_21_code, method_22_code, method_23_code, method_24_code, method_25_code, method_26_code, method_27_code, method_28_code, method_29_code, method_30_code, method_31_code, prog_3_method_16_code, code]
def yb (m : Nat) : ByteArray := ybs.getD m code
def yrs : List (Option FieldType) := [some .int, some .int, some .int, some .int, none, some .int, some .char, some .int, some .char, some .byte, some .boolean, none, none, some .boolean, none, none, none, none, some .boolean, some .boolean, some .boolean, some .int, some .int, some .boolean, none, none, none, some .int, some .int, some .int, some .boolean, some .int, some .int, some .int, some .int, some .int, some .int, some .int, some .int, some .int, some .int, none, some .boolean, some .boolean, some .boolean, none, none, some .boolean, some .boolean, some .boolean, some .boolean, some .boolean, some .boolean, some .boolean, some .int, some .int, some .int, some .int, some .int, none, none, some .boolean, some .boolean, some .boolean, some .int, some .boolean, some .boolean, some .int, some .int, none, some .int, none, some .int, some .int, some .int, some .int, none, some .boolean, some .boolean, some .boolean, some .boolean, some .boolean, some .boolean, none, none, some .boolean, none, none, some .boolean, some .boolean, none, none, some .boolean, none, some .boolean, some .boolean, some .boolean, none, some .int, some .int, some .int, none, some .int, some .int, none, none, none, some .int, none, some .int, none, none, none, some .int, none, some .int, some .int, some .int, some .int, some .int, some .int, some .int, some .int, some .int, some .int, some .int, some .int, some .int, some .int, some .int, some .int, some .int, some .int, some .int, some .int, some .int, some .int, some .int, some .int, some .int, some .int, some .int, some .long, some .int, some .int, some .int, some .int, some .int, some .int, some .int, some .int, some .int, some .int, some .int, some .int, some .int, none, none, none, some .boolean, some .int, some .long, none, none, some .int, some .boolean, some .boolean, some .int, some .int, some .boolean, some .int, some .int, none, none, some .boolean, some .boolean, some .int, some .int, some .int, some .boolean, none, some .boolean, none, some .boolean, none, some .int, some .boolean, some .int, some .int, some .boolean, none, some .int, none, none, none, none, some .boolean, none, none, some .int, none, some .int, some .int, some .int, some .int, none, some .int, some .int, some .int, some .int, some .int, some .int, some .int, some .int, some .int, some .int, some .boolean, some .boolean, none, some .boolean, none, some .int, some .int, some .int, some .int, some .boolean, some .boolean, some .boolean, some .int, some .int, some .int, some .int, some .int, some .int, some .int, some .int, some .int, none, none, some .int, some .int, some .int, some .int, some .int, some .int, some .int, some .boolean, some .int, some .boolean, some .int, some .int, some .int, some .int, some .int, some .int, some .int, some .boolean, some .int, some .long, some .int, some .int, some .int, some .int, some .int, some .int, some .int, none, some .boolean, some .int, some .int, some .int, none, some .int, some .int, some .int, some .int, some .int, some .int, some .int, some .int, some .int, some .int, some .int, some .int, some .int, some .int, some .int, some .int, some .int, some .int, some .int, some .int, some .int, some .int, some .int, some .int, some .int, some .int, some .int, some .int, some .int, some .int, some .int, some .int, some .int, some .int, some .boolean]
def yr (m : Nat) : Option FieldType := yrs.getD m none
def yhs : List (List (Nat × Nat × Nat × Nat)) := [[], [], [], [], [], [], [], [], [], [], [], [], [], [], [], [], [], [], [], [], [], [], [], [], [], [], [], [], [], [], [], [], [], [], [], [], [], [], [], [], [], [], [], [], [], [], [], [], [], [], [], [], [], [], [], [], [], [], [], [], [], [], [], [], [], [], [], [], [], [], [], [], [], [], [], [], [], [], [], [], [], [], [], [], [], [], [], [], [], [], [], [], [], [], [], [], [], [], [], [], [], [], [], [], [], [], [], [], [], [], [], [], [], [], [], [], [], [], [], [], [], [], [], [], [], [], [], [], [], [], [], [], [], [], [], [], [], [], [], [], [], [], [], [], [], [], [], [], [], [], [], [], [], [], [], [], [], [], [], [], [], [], [], [], [], [], [], [], [], [], [], [], [], [], [], [], [], [], [], [], [], [], [], [], [], [], [], [], [], [], [], [], [], [], [], [], [], [], [], [], [], [], [], [], [], [], [], [], [], [], [], [], [], [], [], [], [], [], [], [], [], [], [], [], [], [], [], [], [], [], [], [], [], [], [], [], [], [], [], [], [], [], [], [], [], [], [], [], [], [], [], [], [], [], [], [], [], [], [], [], [], [], [], [], [], [], [], [], [], [], [], [], [], [], [], [], [(0, 9, 12, 13)], [(0, 9, 12, 13)], [(0, 9, 12, 13)], [(0, 9, 12, 13)], [(0, 9, 12, 13)], [(0, 10, 13, 31), (0, 10, 17, 13)], [(0, 10, 13, 31), (0, 10, 17, 13)], [(0, 10, 13, 31), (0, 10, 17, 13)], [(0, 10, 13, 31)], [(0, 10, 13, 31)], [(0, 10, 13, 31)], [(0, 26, 29, 13)], [(0, 10, 13, 13)], [(0, 9, 12, 31)], [(0, 9, 12, 13)], [(0, 10, 13, 31)], [(0, 10, 13, 31)], [(0, 10, 13, 31), (0, 10, 17, 13)], [(0, 10, 13, 31), (0, 10, 17, 13)], [(0, 10, 13, 31)], [(0, 14, 17, 13)], [(0, 13, 16, 13)], [(0, 12, 15, 31), (0, 12, 19, 13)], [(0, 10, 13, 31), (0, 10, 17, 13)], [(0, 9, 12, 31)], [(0, 9, 12, 13)], [(0, 9, 12, 13)], [(0, 14, 17, 13)], [(0, 18, 21, 13)], [], []]
def yh (m : Nat) : List (Nat × Nat × Nat × Nat) := yhs.getD m []
def mx (m : Nat) : Nat := mmax.getD m 0
def yos : List Nat := [18, 18, 18, 17, 16, 19, 15, 13, 13, 13, 13, 13, 1, 1, 1, 1, 1, 1, 1, 1, 1, 1, 1, 1, 6, 6, 6, 6, 6, 6, 6, 6, 6, 6, 6, 6, 6, 6, 6, 6, 6, 6, 6, 6, 6, 6, 3, 3, 3, 3, 3, 3, 3, 3, 3, 3, 3, 3, 3, 4, 4, 4, 4, 4, 4, 4, 4, 4, 4, 2, 2, 2, 2, 2, 2, 2, 5, 5, 5, 5, 5, 5, 5, 5, 5, 5, 11, 11, 11, 11, 7, 7, 7, 7, 7, 7, 7, 8, 8, 8, 8, 8, 8, 8, 9, 9, 9, 9, 9, 9, 10, 10, 10, 10, 0, 0, 0, 0, 0, 0, 0, 0, 0, 0, 0, 0, 0, 0, 0, 0, 0, 0, 0, 0, 0, 0, 0, 0, 0, 0, 0, 0, 0, 0, 0, 0, 0, 0, 0, 0, 0, 0, 0, 0, 0, 0, 0, 0, 0, 0, 0, 0, 12, 12, 12, 12, 12, 12, 12, 12, 12, 12, 12, 12, 12, 12, 12, 12, 12, 12, 12, 12, 12, 12, 12, 12, 12, 12, 12, 12, 12, 12, 12, 12, 12, 12, 12, 12, 12, 12, 12, 12, 12, 12, 12, 12, 12, 12, 12, 12, 12, 12, 12, 12, 12, 12, 12, 12, 12, 12, 12, 12, 12, 12, 12, 12, 12, 12, 12, 12, 12, 12, 12, 12, 12, 12, 12, 12, 12, 12, 12, 12, 12, 12, 12, 12, 12, 12, 12, 12, 12, 12, 12, 12, 12, 12, 12, 12, 12, 12, 12, 12, 12, 12, 12, 12, 12, 12, 12, 12, 12, 12, 12, 12, 12, 12, 14, 14, 14, 14, 14, 14, 14, 14, 14, 14, 14, 14, 14, 14, 14, 14, 14, 14, 14, 14, 14, 14, 14, 14, 14, 14, 14, 14, 14, 6, 14]
def yo (m : Nat) : Nat := yos.getD m 0
def onms : List String := ["DimpleWells", "DimpleWells$Tape", "DimpleWells$Scene", "DimpleWells$Land", "DimpleWells$Law", "DimpleWells$Steps", "DimpleWells$Days", "DimpleWells$History", "DimpleWells$Plan", "DimpleWells$Guess", "DimpleWells$Years", "DimpleWells$Book", "DimpleWellsModel", "java/lang/String", "DimpleWellsLaw", "java/lang/StringLatin1", "java/util/Arrays", "java/lang/Integer", "java/lang/Math", "jdk/internal/util/Preconditions"]
def onm (o : Nat) : String := onms.getD o ""
/-- how a method is called: 0 virtual, 1 constructor, 2 static -/
def yks : List Nat := [2, 2, 2, 2, 2, 2, 2, 0, 0, 0, 0, 2, 1, 0, 0, 0, 0, 0, 0, 0, 0, 0, 0, 0, 1, 0, 0, 0, 0, 0, 0, 0, 0, 0, 0, 0, 0, 0, 0, 0, 0, 0, 0, 0, 0, 0, 1, 0, 0, 0, 0, 0, 0, 0, 0, 0, 0, 0, 0, 1, 0, 0, 0, 0, 2, 0, 0, 0, 2, 1, 0, 0, 0, 0, 0, 0, 1, 0, 0, 0, 0, 0, 0, 0, 0, 0, 1, 0, 0, 0, 1, 0, 0, 0, 0, 0, 0, 1, 0, 0, 0, 0, 0, 0, 1, 0, 0, 2, 0, 0, 1, 0, 0, 0, 1, 0, 0, 0, 0, 0, 0, 0, 0, 0, 0, 0, 0, 0, 0, 0, 0, 0, 0, 0, 0, 0, 0, 0, 0, 0, 0, 0, 0, 0, 0, 0, 0, 0, 0, 0, 0, 0, 0, 0, 0, 0, 0, 0, 0, 2, 2, 2, 1, 0, 0, 0, 2, 2, 2, 2, 0, 0, 0, 0, 2, 2, 0, 0, 2, 0, 0, 0, 0, 0, 0, 0, 0, 0, 2, 0, 0, 0, 2, 2, 0, 0, 0, 0, 0, 0, 0, 0, 2, 0, 0, 0, 0, 0, 0, 2, 0, 0, 0, 0, 0, 0, 0, 2, 0, 0, 0, 0, 0, 0, 0, 0, 0, 0, 0, 0, 0, 0, 0, 0, 0, 0, 0, 0, 0, 0, 0, 0, 0, 0, 0, 0, 0, 0, 0, 0, 0, 0, 0, 0, 0, 2, 2, 0, 0, 0, 0, 0, 0, 0, 0, 0, 0, 2, 0, 0, 0, 0, 0, 0, 0, 0, 2, 2, 2, 2, 2, 2, 2, 2, 2, 2, 2, 2, 2, 2, 2, 2, 2, 2, 2, 2, 2, 2, 2, 2, 2, 2, 2, 2, 2, 0, 2]
def yk (m : Nat) : Nat := yks.getD m 9
def yps : List Nat := [1, 2, 2, 1, 2, 3, 2, 0, 1, 0, 0, 2, 0, 1, 1, 0, 1, 0, 1, 0, 1, 2, 1, 2, 0, 1, 1, 0, 0, 0, 1, 1, 1, 1, 1, 1, 2, 0, 0, 0, 2, 4, 2, 1, 1, 1, 0, 1, 2, 1, 2, 1, 1, 1, 0, 1, 1, 2, 1, 0, 0, 1, 2, 2, 1, 2, 1, 1, 3, 0, 0, 3, 3, 3, 3, 4, 0, 2, 3, 3, 3, 4, 4, 2, 5, 3, 0, 0, 2, 2, 0, 0, 0, 1, 1, 1, 1, 0, 2, 3, 3, 2, 3, 2, 0, 4, 5, 3, 4, 2, 0, 5, 3, 1, 0, 5, 1, 1, 1, 1, 0, 0, 1, 2, 2, 2, 2, 2, 2, 10, 2, 0, 1, 1, 2, 2, 2, 2, 0, 2, 0, 4, 4, 3, 2, 1, 1, 0, 1, 4, 6, 0, 0, 1, 1, 3, 1, 1, 2, 5, 4, 2, 0, 0, 0, 3, 3, 2, 2, 2, 5, 1, 0, 2, 1, 1, 2, 0, 6, 6, 0, 6, 1, 1, 1, 0, 2, 0, 1, 2, 0, 1, 3, 2, 0, 2, 0, 0, 0, 0, 0, 1, 3, 0, 0, 0, 1, 0, 10, 1, 1, 2, 2, 6, 3, 3, 3, 3, 1, 2, 2, 1, 0, 2, 1, 1, 1, 2, 2, 2, 2, 2, 2, 2, 10, 2, 0, 3, 0, 0, 1, 1, 1, 3, 2, 2, 3, 2, 1, 2, 2, 0, 1, 2, 0, 4, 5, 4, 4, 2, 3, 2, 1, 1, 1, 1, 3, 2, 4, 6, 3, 2, 0, 0, 1, 1, 3, 3, 3, 3, 3, 4, 4, 4, 4, 4, 4, 12, 4, 3, 3, 4, 4, 4, 4, 4, 6, 6, 5, 4, 3, 3, 3, 6, 8, 1, 1]
def yp (m : Nat) : Nat := yps.getD m 0
def codeC (m : Nat) : Cond := match yh m with
  | [] => .code (yn m) (yb m) (mx m) (yr m)
  | q :: t => .codeWith (yn m) (yb m) (mx m) (yr m) (q :: t)
def lwG : List Cond := lw_tbl.filter goodWord
theorem lwG_of {w : Cond} (i : Nat) (h : lw_tbl[i]? = some w) (g : goodWord w = true) : w ∈ lwG := List.mem_filter.mpr ⟨List.mem_of_getElem? h, g⟩
theorem lwG_good {w : Cond} (h : w ∈ lwG) : w ∈ lw_tbl ∧ goodWord w = true := List.mem_filter.mp h
/-- a row of facts by places: f k stands at the k-th place -/
def atP (f : Nat → Cond) : List Nat → Nat → Bool
  | [], _ => true
  | i :: t, k => decide (lw_tbl[i]? = some (f k)) && atP f t (k + 1)
def ycp : List Nat := [615, 666, 663, 638, 503, 889, 881, 864, 874, 868, 878, 884, 189, 574, 578, 840, 836, 845, 946, 995, 942, 929, 860, 912, 392, 516, 710, 649, 1112, 683, 1063, 627, 645, 1156, 1160, 623, 619, 631, 715, 1117, 1121, 1067, 1071, 1075, 1079, 719, 245, 850, 855, 916, 921, 925, 934, 938, 670, 702, 730, 1315, 696, 316, 321, 964, 968, 972, 991, 976, 981, 657, 660, 239, 653, 612, 608, 604, 1059, 1259, 359, 1011, 1015, 1019, 1027, 1031, 1036, 1047, 1051, 1055, 495, 500, 1092, 1096, 403, 952, 1006, 1042, 590, 738, 746, 427, 599, 674, 678, 687, 1242, 1248, 447, 1277, 1281, 1285, 1298, 1302, 477, 1387, 1391, 1395, 181, 570, 762, 959, 1002, 1088, 582, 586, 1107, 1129, 1167, 1180, 1188, 1200, 1208, 1216, 1224, 595, 1231, 1238, 1255, 1266, 1273, 1294, 691, 1311, 706, 1322, 1335, 1346, 1355, 1362, 1369, 725, 1376, 1383, 1407, 734, 742, 750, 754, 766, 1133, 1171, 1192, 1325, 1328, 1338, 1413, 1420, 1571, 1586, 1582, 1769, 1740, 1698, 1575, 1598, 1594, 1624, 1638, 1617, 1635, 1614, 1620, 1610, 1631, 1683, 1647, 1691, 1590, 1651, 1687, 1606, 1627, 1643, 1602, 1579, 1427, 1717, 1424, 1675, 1671, 1659, 1663, 1679, 1667, 1655, 1766, 1763, 1714, 1710, 1695, 1702, 1759, 1755, 1748, 1752, 1744, 1737, 1733, 1828, 1729, 1772, 1776, 1725, 1721, 1706, 1780, 1788, 1784, 1796, 1804, 1816, 1792, 1800, 1808, 1812, 1820, 1824, 1832, 1836, 1840, 1852, 1848, 1844, 1856, 1864, 1860, 1872, 1868, 1876, 1884, 1880, 1892, 1896, 1888, 1900, 1908, 1904, 1912, 1922, 1919, 1916, 1926, 1934, 1930, 1938, 1942, 1946, 1950, 1965, 1961, 1957, 1954, 1970, 1982, 1978, 1974, 1986, 1990, 1994, 757, 955, 998, 1084, 1103, 1124, 1163, 1176, 1184, 1196, 1204, 1212, 1220, 1227, 1234, 1251, 1262, 1269, 1290, 1307, 1318, 1331, 1342, 1351, 1358, 1365, 1372, 1379, 1403, 635, 0]
set_option maxRecDepth 100000 in
theorem cp_0 : lw_tbl[615]? = some (codeC 0) := rfl
set_option maxRecDepth 100000 in
theorem cp_1 : lw_tbl[666]? = some (codeC 1) := rfl
set_option maxRecDepth 100000 in
theorem cp_2 : lw_tbl[663]? = some (codeC 2) := rfl
set_option maxRecDepth 100000 in
theorem cp_3 : lw_tbl[638]? = some (codeC 3) := rfl
set_option maxRecDepth 100000 in
theorem cp_4 : lw_tbl[503]? = some (codeC 4) := rfl
set_option maxRecDepth 100000 in
theorem cp_5 : lw_tbl[889]? = some (codeC 5) := rfl
set_option maxRecDepth 100000 in
theorem cp_6 : lw_tbl[881]? = some (codeC 6) := rfl
set_option maxRecDepth 100000 in
theorem cp_7 : lw_tbl[864]? = some (codeC 7) := rfl
set_option maxRecDepth 100000 in
theorem cp_8 : lw_tbl[874]? = some (codeC 8) := rfl
set_option maxRecDepth 100000 in
theorem cp_9 : lw_tbl[868]? = some (codeC 9) := rfl
set_option maxRecDepth 100000 in
theorem cp_10 : lw_tbl[878]? = some (codeC 10) := rfl
set_option maxRecDepth 100000 in
theorem cp_11 : lw_tbl[884]? = some (codeC 11) := rfl
set_option maxRecDepth 100000 in
theorem cp_12 : lw_tbl[189]? = some (codeC 12) := rfl
set_option maxRecDepth 100000 in
theorem cp_13 : lw_tbl[574]? = some (codeC 13) := rfl
set_option maxRecDepth 100000 in
theorem cp_14 : lw_tbl[578]? = some (codeC 14) := rfl
set_option maxRecDepth 100000 in
theorem cp_15 : lw_tbl[840]? = some (codeC 15) := rfl
set_option maxRecDepth 100000 in
theorem cp_16 : lw_tbl[836]? = some (codeC 16) := rfl
set_option maxRecDepth 100000 in
theorem cp_17 : lw_tbl[845]? = some (codeC 17) := rfl
set_option maxRecDepth 100000 in
theorem cp_18 : lw_tbl[946]? = some (codeC 18) := rfl
set_option maxRecDepth 100000 in
theorem cp_19 : lw_tbl[995]? = some (codeC 19) := rfl
set_option maxRecDepth 100000 in
theorem cp_20 : lw_tbl[942]? = some (codeC 20) := rfl
set_option maxRecDepth 100000 in
theorem cp_21 : lw_tbl[929]? = some (codeC 21) := rfl
set_option maxRecDepth 100000 in
theorem cp_22 : lw_tbl[860]? = some (codeC 22) := rfl
set_option maxRecDepth 100000 in
theorem cp_23 : lw_tbl[912]? = some (codeC 23) := rfl
set_option maxRecDepth 100000 in
theorem cp_24 : lw_tbl[392]? = some (codeC 24) := rfl
set_option maxRecDepth 100000 in
theorem cp_25 : lw_tbl[516]? = some (codeC 25) := rfl
set_option maxRecDepth 100000 in
theorem cp_26 : lw_tbl[710]? = some (codeC 26) := rfl
set_option maxRecDepth 100000 in
theorem cp_27 : lw_tbl[649]? = some (codeC 27) := rfl
set_option maxRecDepth 100000 in
theorem cp_28 : lw_tbl[1112]? = some (codeC 28) := rfl
set_option maxRecDepth 100000 in
theorem cp_29 : lw_tbl[683]? = some (codeC 29) := rfl
set_option maxRecDepth 100000 in
theorem cp_30 : lw_tbl[1063]? = some (codeC 30) := rfl
set_option maxRecDepth 100000 in
theorem cp_31 : lw_tbl[627]? = some (codeC 31) := rfl
set_option maxRecDepth 100000 in
theorem cp_32 : lw_tbl[645]? = some (codeC 32) := rfl
set_option maxRecDepth 100000 in
theorem cp_33 : lw_tbl[1156]? = some (codeC 33) := rfl
set_option maxRecDepth 100000 in
theorem cp_34 : lw_tbl[1160]? = some (codeC 34) := rfl
set_option maxRecDepth 100000 in
theorem cp_35 : lw_tbl[623]? = some (codeC 35) := rfl
set_option maxRecDepth 100000 in
theorem cp_36 : lw_tbl[619]? = some (codeC 36) := rfl
set_option maxRecDepth 100000 in
theorem cp_37 : lw_tbl[631]? = some (codeC 37) := rfl
set_option maxRecDepth 100000 in
theorem cp_38 : lw_tbl[715]? = some (codeC 38) := rfl
set_option maxRecDepth 100000 in
theorem cp_39 : lw_tbl[1117]? = some (codeC 39) := rfl
set_option maxRecDepth 100000 in
theorem cp_40 : lw_tbl[1121]? = some (codeC 40) := rfl
set_option maxRecDepth 100000 in
theorem cp_41 : lw_tbl[1067]? = some (codeC 41) := rfl
set_option maxRecDepth 100000 in
theorem cp_42 : lw_tbl[1071]? = some (codeC 42) := rfl
set_option maxRecDepth 100000 in
theorem cp_43 : lw_tbl[1075]? = some (codeC 43) := rfl
set_option maxRecDepth 100000 in
theorem cp_44 : lw_tbl[1079]? = some (codeC 44) := rfl
set_option maxRecDepth 100000 in
theorem cp_45 : lw_tbl[719]? = some (codeC 45) := rfl
set_option maxRecDepth 100000 in
theorem cp_46 : lw_tbl[245]? = some (codeC 46) := rfl
set_option maxRecDepth 100000 in
theorem cp_47 : lw_tbl[850]? = some (codeC 47) := rfl
set_option maxRecDepth 100000 in
theorem cp_48 : lw_tbl[855]? = some (codeC 48) := rfl
set_option maxRecDepth 100000 in
theorem cp_49 : lw_tbl[916]? = some (codeC 49) := rfl
set_option maxRecDepth 100000 in
theorem cp_50 : lw_tbl[921]? = some (codeC 50) := rfl
set_option maxRecDepth 100000 in
theorem cp_51 : lw_tbl[925]? = some (codeC 51) := rfl
set_option maxRecDepth 100000 in
theorem cp_52 : lw_tbl[934]? = some (codeC 52) := rfl
set_option maxRecDepth 100000 in
theorem cp_53 : lw_tbl[938]? = some (codeC 53) := rfl
set_option maxRecDepth 100000 in
theorem cp_54 : lw_tbl[670]? = some (codeC 54) := rfl
set_option maxRecDepth 100000 in
theorem cp_55 : lw_tbl[702]? = some (codeC 55) := rfl
set_option maxRecDepth 100000 in
theorem cp_56 : lw_tbl[730]? = some (codeC 56) := rfl
set_option maxRecDepth 100000 in
theorem cp_57 : lw_tbl[1315]? = some (codeC 57) := rfl
set_option maxRecDepth 100000 in
theorem cp_58 : lw_tbl[696]? = some (codeC 58) := rfl
set_option maxRecDepth 100000 in
theorem cp_59 : lw_tbl[316]? = some (codeC 59) := rfl
set_option maxRecDepth 100000 in
theorem cp_60 : lw_tbl[321]? = some (codeC 60) := rfl
set_option maxRecDepth 100000 in
theorem cp_61 : lw_tbl[964]? = some (codeC 61) := rfl
set_option maxRecDepth 100000 in
theorem cp_62 : lw_tbl[968]? = some (codeC 62) := rfl
set_option maxRecDepth 100000 in
theorem cp_63 : lw_tbl[972]? = some (codeC 63) := rfl
set_option maxRecDepth 100000 in
theorem cp_64 : lw_tbl[991]? = some (codeC 64) := rfl
set_option maxRecDepth 100000 in
theorem cp_65 : lw_tbl[976]? = some (codeC 65) := rfl
set_option maxRecDepth 100000 in
theorem cp_66 : lw_tbl[981]? = some (codeC 66) := rfl
set_option maxRecDepth 100000 in
theorem cp_67 : lw_tbl[657]? = some (codeC 67) := rfl
set_option maxRecDepth 100000 in
theorem cp_68 : lw_tbl[660]? = some (codeC 68) := rfl
set_option maxRecDepth 100000 in
theorem cp_69 : lw_tbl[239]? = some (codeC 69) := rfl
set_option maxRecDepth 100000 in
theorem cp_70 : lw_tbl[653]? = some (codeC 70) := rfl
set_option maxRecDepth 100000 in
theorem cp_71 : lw_tbl[612]? = some (codeC 71) := rfl
set_option maxRecDepth 100000 in
theorem cp_72 : lw_tbl[608]? = some (codeC 72) := rfl
set_option maxRecDepth 100000 in
theorem cp_73 : lw_tbl[604]? = some (codeC 73) := rfl
set_option maxRecDepth 100000 in
theorem cp_74 : lw_tbl[1059]? = some (codeC 74) := rfl
set_option maxRecDepth 100000 in
theorem cp_75 : lw_tbl[1259]? = some (codeC 75) := rfl
set_option maxRecDepth 100000 in
theorem cp_76 : lw_tbl[359]? = some (codeC 76) := rfl
set_option maxRecDepth 100000 in
theorem cp_77 : lw_tbl[1011]? = some (codeC 77) := rfl
set_option maxRecDepth 100000 in
theorem cp_78 : lw_tbl[1015]? = some (codeC 78) := rfl
set_option maxRecDepth 100000 in
theorem cp_79 : lw_tbl[1019]? = some (codeC 79) := rfl
set_option maxRecDepth 100000 in
theorem cp_80 : lw_tbl[1027]? = some (codeC 80) := rfl
set_option maxRecDepth 100000 in
theorem cp_81 : lw_tbl[1031]? = some (codeC 81) := rfl
set_option maxRecDepth 100000 in
theorem cp_82 : lw_tbl[1036]? = some (codeC 82) := rfl
set_option maxRecDepth 100000 in
theorem cp_83 : lw_tbl[1047]? = some (codeC 83) := rfl
set_option maxRecDepth 100000 in
theorem cp_84 : lw_tbl[1051]? = some (codeC 84) := rfl
set_option maxRecDepth 100000 in
theorem cp_85 : lw_tbl[1055]? = some (codeC 85) := rfl
set_option maxRecDepth 100000 in
theorem cp_86 : lw_tbl[495]? = some (codeC 86) := rfl
set_option maxRecDepth 100000 in
theorem cp_87 : lw_tbl[500]? = some (codeC 87) := rfl
set_option maxRecDepth 100000 in
theorem cp_88 : lw_tbl[1092]? = some (codeC 88) := rfl
set_option maxRecDepth 100000 in
theorem cp_89 : lw_tbl[1096]? = some (codeC 89) := rfl
set_option maxRecDepth 100000 in
theorem cp_90 : lw_tbl[403]? = some (codeC 90) := rfl
set_option maxRecDepth 100000 in
theorem cp_91 : lw_tbl[952]? = some (codeC 91) := rfl
set_option maxRecDepth 100000 in
theorem cp_92 : lw_tbl[1006]? = some (codeC 92) := rfl
set_option maxRecDepth 100000 in
theorem cp_93 : lw_tbl[1042]? = some (codeC 93) := rfl
set_option maxRecDepth 100000 in
theorem cp_94 : lw_tbl[590]? = some (codeC 94) := rfl
set_option maxRecDepth 100000 in
theorem cp_95 : lw_tbl[738]? = some (codeC 95) := rfl
set_option maxRecDepth 100000 in
theorem cp_96 : lw_tbl[746]? = some (codeC 96) := rfl
set_option maxRecDepth 100000 in
theorem cp_97 : lw_tbl[427]? = some (codeC 97) := rfl
set_option maxRecDepth 100000 in
theorem cp_98 : lw_tbl[599]? = some (codeC 98) := rfl
set_option maxRecDepth 100000 in
theorem cp_99 : lw_tbl[674]? = some (codeC 99) := rfl
set_option maxRecDepth 100000 in
theorem cp_100 : lw_tbl[678]? = some (codeC 100) := rfl
set_option maxRecDepth 100000 in
theorem cp_101 : lw_tbl[687]? = some (codeC 101) := rfl
set_option maxRecDepth 100000 in
theorem cp_102 : lw_tbl[1242]? = some (codeC 102) := rfl
set_option maxRecDepth 100000 in
theorem cp_103 : lw_tbl[1248]? = some (codeC 103) := rfl
set_option maxRecDepth 100000 in
theorem cp_104 : lw_tbl[447]? = some (codeC 104) := rfl
set_option maxRecDepth 100000 in
theorem cp_105 : lw_tbl[1277]? = some (codeC 105) := rfl
set_option maxRecDepth 100000 in
theorem cp_106 : lw_tbl[1281]? = some (codeC 106) := rfl
set_option maxRecDepth 100000 in
theorem cp_107 : lw_tbl[1285]? = some (codeC 107) := rfl
set_option maxRecDepth 100000 in
theorem cp_108 : lw_tbl[1298]? = some (codeC 108) := rfl
set_option maxRecDepth 100000 in
theorem cp_109 : lw_tbl[1302]? = some (codeC 109) := rfl
set_option maxRecDepth 100000 in
theorem cp_110 : lw_tbl[477]? = some (codeC 110) := rfl
set_option maxRecDepth 100000 in
theorem cp_111 : lw_tbl[1387]? = some (codeC 111) := rfl
set_option maxRecDepth 100000 in
theorem cp_112 : lw_tbl[1391]? = some (codeC 112) := rfl
set_option maxRecDepth 100000 in
theorem cp_113 : lw_tbl[1395]? = some (codeC 113) := rfl
set_option maxRecDepth 100000 in
theorem cp_114 : lw_tbl[181]? = some (codeC 114) := rfl
set_option maxRecDepth 100000 in
theorem cp_115 : lw_tbl[570]? = some (codeC 115) := rfl
set_option maxRecDepth 100000 in
theorem cp_116 : lw_tbl[762]? = some (codeC 116) := rfl
set_option maxRecDepth 100000 in
theorem cp_117 : lw_tbl[959]? = some (codeC 117) := rfl
set_option maxRecDepth 100000 in
theorem cp_118 : lw_tbl[1002]? = some (codeC 118) := rfl
set_option maxRecDepth 100000 in
theorem cp_119 : lw_tbl[1088]? = some (codeC 119) := rfl
set_option maxRecDepth 100000 in
theorem cp_120 : lw_tbl[582]? = some (codeC 120) := rfl
set_option maxRecDepth 100000 in
theorem cp_121 : lw_tbl[586]? = some (codeC 121) := rfl
set_option maxRecDepth 100000 in
theorem cp_122 : lw_tbl[1107]? = some (codeC 122) := rfl
set_option maxRecDepth 100000 in
theorem cp_123 : lw_tbl[1129]? = some (codeC 123) := rfl
set_option maxRecDepth 100000 in
theorem cp_124 : lw_tbl[1167]? = some (codeC 124) := rfl
set_option maxRecDepth 100000 in
theorem cp_125 : lw_tbl[1180]? = some (codeC 125) := rfl
set_option maxRecDepth 100000 in
theorem cp_126 : lw_tbl[1188]? = some (codeC 126) := rfl
set_option maxRecDepth 100000 in
theorem cp_127 : lw_tbl[1200]? = some (codeC 127) := rfl
set_option maxRecDepth 100000 in
theorem cp_128 : lw_tbl[1208]? = some (codeC 128) := rfl
set_option maxRecDepth 100000 in
theorem cp_129 : lw_tbl[1216]? = some (codeC 129) := rfl
set_option maxRecDepth 100000 in
theorem cp_130 : lw_tbl[1224]? = some (codeC 130) := rfl
set_option maxRecDepth 100000 in
theorem cp_131 : lw_tbl[595]? = some (codeC 131) := rfl
set_option maxRecDepth 100000 in
theorem cp_132 : lw_tbl[1231]? = some (codeC 132) := rfl
set_option maxRecDepth 100000 in
theorem cp_133 : lw_tbl[1238]? = some (codeC 133) := rfl
set_option maxRecDepth 100000 in
theorem cp_134 : lw_tbl[1255]? = some (codeC 134) := rfl
set_option maxRecDepth 100000 in
theorem cp_135 : lw_tbl[1266]? = some (codeC 135) := rfl
set_option maxRecDepth 100000 in
theorem cp_136 : lw_tbl[1273]? = some (codeC 136) := rfl
set_option maxRecDepth 100000 in
theorem cp_137 : lw_tbl[1294]? = some (codeC 137) := rfl
set_option maxRecDepth 100000 in
theorem cp_138 : lw_tbl[691]? = some (codeC 138) := rfl
set_option maxRecDepth 100000 in
theorem cp_139 : lw_tbl[1311]? = some (codeC 139) := rfl
set_option maxRecDepth 100000 in
theorem cp_140 : lw_tbl[706]? = some (codeC 140) := rfl
set_option maxRecDepth 100000 in
theorem cp_141 : lw_tbl[1322]? = some (codeC 141) := rfl
set_option maxRecDepth 100000 in
theorem cp_142 : lw_tbl[1335]? = some (codeC 142) := rfl
set_option maxRecDepth 100000 in
theorem cp_143 : lw_tbl[1346]? = some (codeC 143) := rfl
set_option maxRecDepth 100000 in
theorem cp_144 : lw_tbl[1355]? = some (codeC 144) := rfl
set_option maxRecDepth 100000 in
theorem cp_145 : lw_tbl[1362]? = some (codeC 145) := rfl
set_option maxRecDepth 100000 in
theorem cp_146 : lw_tbl[1369]? = some (codeC 146) := rfl
set_option maxRecDepth 100000 in
theorem cp_147 : lw_tbl[725]? = some (codeC 147) := rfl
set_option maxRecDepth 100000 in
theorem cp_148 : lw_tbl[1376]? = some (codeC 148) := rfl
set_option maxRecDepth 100000 in
theorem cp_149 : lw_tbl[1383]? = some (codeC 149) := rfl
set_option maxRecDepth 100000 in
theorem cp_150 : lw_tbl[1407]? = some (codeC 150) := rfl
set_option maxRecDepth 100000 in
theorem cp_151 : lw_tbl[734]? = some (codeC 151) := rfl
set_option maxRecDepth 100000 in
theorem cp_152 : lw_tbl[742]? = some (codeC 152) := rfl
set_option maxRecDepth 100000 in
theorem cp_153 : lw_tbl[750]? = some (codeC 153) := rfl
set_option maxRecDepth 100000 in
theorem cp_154 : lw_tbl[754]? = some (codeC 154) := rfl
set_option maxRecDepth 100000 in
theorem cp_155 : lw_tbl[766]? = some (codeC 155) := rfl
set_option maxRecDepth 100000 in
theorem cp_156 : lw_tbl[1133]? = some (codeC 156) := rfl
set_option maxRecDepth 100000 in
theorem cp_157 : lw_tbl[1171]? = some (codeC 157) := rfl
set_option maxRecDepth 100000 in
theorem cp_158 : lw_tbl[1192]? = some (codeC 158) := rfl
set_option maxRecDepth 100000 in
theorem cp_159 : lw_tbl[1325]? = some (codeC 159) := rfl
set_option maxRecDepth 100000 in
theorem cp_160 : lw_tbl[1328]? = some (codeC 160) := rfl
set_option maxRecDepth 100000 in
theorem cp_161 : lw_tbl[1338]? = some (codeC 161) := rfl
set_option maxRecDepth 100000 in
theorem cp_162 : lw_tbl[1413]? = some (codeC 162) := rfl
set_option maxRecDepth 100000 in
theorem cp_163 : lw_tbl[1420]? = some (codeC 163) := rfl
set_option maxRecDepth 100000 in
theorem cp_164 : lw_tbl[1571]? = some (codeC 164) := rfl
set_option maxRecDepth 100000 in
theorem cp_165 : lw_tbl[1586]? = some (codeC 165) := rfl
set_option maxRecDepth 100000 in
theorem cp_166 : lw_tbl[1582]? = some (codeC 166) := rfl
set_option maxRecDepth 100000 in
theorem cp_167 : lw_tbl[1769]? = some (codeC 167) := rfl
set_option maxRecDepth 100000 in
theorem cp_168 : lw_tbl[1740]? = some (codeC 168) := rfl
set_option maxRecDepth 100000 in
theorem cp_169 : lw_tbl[1698]? = some (codeC 169) := rfl
set_option maxRecDepth 100000 in
theorem cp_170 : lw_tbl[1575]? = some (codeC 170) := rfl
set_option maxRecDepth 100000 in
theorem cp_171 : lw_tbl[1598]? = some (codeC 171) := rfl
set_option maxRecDepth 100000 in
theorem cp_172 : lw_tbl[1594]? = some (codeC 172) := rfl
set_option maxRecDepth 100000 in
theorem cp_173 : lw_tbl[1624]? = some (codeC 173) := rfl
set_option maxRecDepth 100000 in
theorem cp_174 : lw_tbl[1638]? = some (codeC 174) := rfl
set_option maxRecDepth 100000 in
theorem cp_175 : lw_tbl[1617]? = some (codeC 175) := rfl
set_option maxRecDepth 100000 in
theorem cp_176 : lw_tbl[1635]? = some (codeC 176) := rfl
set_option maxRecDepth 100000 in
theorem cp_177 : lw_tbl[1614]? = some (codeC 177) := rfl
set_option maxRecDepth 100000 in
theorem cp_178 : lw_tbl[1620]? = some (codeC 178) := rfl
set_option maxRecDepth 100000 in
theorem cp_179 : lw_tbl[1610]? = some (codeC 179) := rfl
set_option maxRecDepth 100000 in
theorem cp_180 : lw_tbl[1631]? = some (codeC 180) := rfl
set_option maxRecDepth 100000 in
theorem cp_181 : lw_tbl[1683]? = some (codeC 181) := rfl
set_option maxRecDepth 100000 in
theorem cp_182 : lw_tbl[1647]? = some (codeC 182) := rfl
set_option maxRecDepth 100000 in
theorem cp_183 : lw_tbl[1691]? = some (codeC 183) := rfl
set_option maxRecDepth 100000 in
theorem cp_184 : lw_tbl[1590]? = some (codeC 184) := rfl
set_option maxRecDepth 100000 in
theorem cp_185 : lw_tbl[1651]? = some (codeC 185) := rfl
set_option maxRecDepth 100000 in
theorem cp_186 : lw_tbl[1687]? = some (codeC 186) := rfl
set_option maxRecDepth 100000 in
theorem cp_187 : lw_tbl[1606]? = some (codeC 187) := rfl
set_option maxRecDepth 100000 in
theorem cp_188 : lw_tbl[1627]? = some (codeC 188) := rfl
set_option maxRecDepth 100000 in
theorem cp_189 : lw_tbl[1643]? = some (codeC 189) := rfl
set_option maxRecDepth 100000 in
theorem cp_190 : lw_tbl[1602]? = some (codeC 190) := rfl
set_option maxRecDepth 100000 in
theorem cp_191 : lw_tbl[1579]? = some (codeC 191) := rfl
set_option maxRecDepth 100000 in
theorem cp_192 : lw_tbl[1427]? = some (codeC 192) := rfl
set_option maxRecDepth 100000 in
theorem cp_193 : lw_tbl[1717]? = some (codeC 193) := rfl
set_option maxRecDepth 100000 in
theorem cp_194 : lw_tbl[1424]? = some (codeC 194) := rfl
set_option maxRecDepth 100000 in
theorem cp_195 : lw_tbl[1675]? = some (codeC 195) := rfl
set_option maxRecDepth 100000 in
theorem cp_196 : lw_tbl[1671]? = some (codeC 196) := rfl
set_option maxRecDepth 100000 in
theorem cp_197 : lw_tbl[1659]? = some (codeC 197) := rfl
set_option maxRecDepth 100000 in
theorem cp_198 : lw_tbl[1663]? = some (codeC 198) := rfl
set_option maxRecDepth 100000 in
theorem cp_199 : lw_tbl[1679]? = some (codeC 199) := rfl
set_option maxRecDepth 100000 in
theorem cp_200 : lw_tbl[1667]? = some (codeC 200) := rfl
set_option maxRecDepth 100000 in
theorem cp_201 : lw_tbl[1655]? = some (codeC 201) := rfl
set_option maxRecDepth 100000 in
theorem cp_202 : lw_tbl[1766]? = some (codeC 202) := rfl
set_option maxRecDepth 100000 in
theorem cp_203 : lw_tbl[1763]? = some (codeC 203) := rfl
set_option maxRecDepth 100000 in
theorem cp_204 : lw_tbl[1714]? = some (codeC 204) := rfl
set_option maxRecDepth 100000 in
theorem cp_205 : lw_tbl[1710]? = some (codeC 205) := rfl
set_option maxRecDepth 100000 in
theorem cp_206 : lw_tbl[1695]? = some (codeC 206) := rfl
set_option maxRecDepth 100000 in
theorem cp_207 : lw_tbl[1702]? = some (codeC 207) := rfl
set_option maxRecDepth 100000 in
theorem cp_208 : lw_tbl[1759]? = some (codeC 208) := rfl
set_option maxRecDepth 100000 in
theorem cp_209 : lw_tbl[1755]? = some (codeC 209) := rfl
set_option maxRecDepth 100000 in
theorem cp_210 : lw_tbl[1748]? = some (codeC 210) := rfl
set_option maxRecDepth 100000 in
theorem cp_211 : lw_tbl[1752]? = some (codeC 211) := rfl
set_option maxRecDepth 100000 in
theorem cp_212 : lw_tbl[1744]? = some (codeC 212) := rfl
set_option maxRecDepth 100000 in
theorem cp_213 : lw_tbl[1737]? = some (codeC 213) := rfl
set_option maxRecDepth 100000 in
theorem cp_214 : lw_tbl[1733]? = some (codeC 214) := rfl
set_option maxRecDepth 100000 in
theorem cp_215 : lw_tbl[1828]? = some (codeC 215) := rfl
set_option maxRecDepth 100000 in
theorem cp_216 : lw_tbl[1729]? = some (codeC 216) := rfl
set_option maxRecDepth 100000 in
theorem cp_217 : lw_tbl[1772]? = some (codeC 217) := rfl
set_option maxRecDepth 100000 in
theorem cp_218 : lw_tbl[1776]? = some (codeC 218) := rfl
set_option maxRecDepth 100000 in
theorem cp_219 : lw_tbl[1725]? = some (codeC 219) := rfl
set_option maxRecDepth 100000 in
theorem cp_220 : lw_tbl[1721]? = some (codeC 220) := rfl
set_option maxRecDepth 100000 in
theorem cp_221 : lw_tbl[1706]? = some (codeC 221) := rfl
set_option maxRecDepth 100000 in
theorem cp_222 : lw_tbl[1780]? = some (codeC 222) := rfl
set_option maxRecDepth 100000 in
theorem cp_223 : lw_tbl[1788]? = some (codeC 223) := rfl
set_option maxRecDepth 100000 in
theorem cp_224 : lw_tbl[1784]? = some (codeC 224) := rfl
set_option maxRecDepth 100000 in
theorem cp_225 : lw_tbl[1796]? = some (codeC 225) := rfl
set_option maxRecDepth 100000 in
theorem cp_226 : lw_tbl[1804]? = some (codeC 226) := rfl
set_option maxRecDepth 100000 in
theorem cp_227 : lw_tbl[1816]? = some (codeC 227) := rfl
set_option maxRecDepth 100000 in
theorem cp_228 : lw_tbl[1792]? = some (codeC 228) := rfl
set_option maxRecDepth 100000 in
theorem cp_229 : lw_tbl[1800]? = some (codeC 229) := rfl
set_option maxRecDepth 100000 in
theorem cp_230 : lw_tbl[1808]? = some (codeC 230) := rfl
set_option maxRecDepth 100000 in
theorem cp_231 : lw_tbl[1812]? = some (codeC 231) := rfl
set_option maxRecDepth 100000 in
theorem cp_232 : lw_tbl[1820]? = some (codeC 232) := rfl
set_option maxRecDepth 100000 in
theorem cp_233 : lw_tbl[1824]? = some (codeC 233) := rfl
set_option maxRecDepth 100000 in
theorem cp_234 : lw_tbl[1832]? = some (codeC 234) := rfl
set_option maxRecDepth 100000 in
theorem cp_235 : lw_tbl[1836]? = some (codeC 235) := rfl
set_option maxRecDepth 100000 in
theorem cp_236 : lw_tbl[1840]? = some (codeC 236) := rfl
set_option maxRecDepth 100000 in
theorem cp_237 : lw_tbl[1852]? = some (codeC 237) := rfl
set_option maxRecDepth 100000 in
theorem cp_238 : lw_tbl[1848]? = some (codeC 238) := rfl
set_option maxRecDepth 100000 in
theorem cp_239 : lw_tbl[1844]? = some (codeC 239) := rfl
set_option maxRecDepth 100000 in
theorem cp_240 : lw_tbl[1856]? = some (codeC 240) := rfl
set_option maxRecDepth 100000 in
theorem cp_241 : lw_tbl[1864]? = some (codeC 241) := rfl
set_option maxRecDepth 100000 in
theorem cp_242 : lw_tbl[1860]? = some (codeC 242) := rfl
set_option maxRecDepth 100000 in
theorem cp_243 : lw_tbl[1872]? = some (codeC 243) := rfl
set_option maxRecDepth 100000 in
theorem cp_244 : lw_tbl[1868]? = some (codeC 244) := rfl
set_option maxRecDepth 100000 in
theorem cp_245 : lw_tbl[1876]? = some (codeC 245) := rfl
set_option maxRecDepth 100000 in
theorem cp_246 : lw_tbl[1884]? = some (codeC 246) := rfl
set_option maxRecDepth 100000 in
theorem cp_247 : lw_tbl[1880]? = some (codeC 247) := rfl
set_option maxRecDepth 100000 in
theorem cp_248 : lw_tbl[1892]? = some (codeC 248) := rfl
set_option maxRecDepth 100000 in
theorem cp_249 : lw_tbl[1896]? = some (codeC 249) := rfl
set_option maxRecDepth 100000 in
theorem cp_250 : lw_tbl[1888]? = some (codeC 250) := rfl
set_option maxRecDepth 100000 in
theorem cp_251 : lw_tbl[1900]? = some (codeC 251) := rfl
set_option maxRecDepth 100000 in
theorem cp_252 : lw_tbl[1908]? = some (codeC 252) := rfl
set_option maxRecDepth 100000 in
theorem cp_253 : lw_tbl[1904]? = some (codeC 253) := rfl
set_option maxRecDepth 100000 in
theorem cp_254 : lw_tbl[1912]? = some (codeC 254) := rfl
set_option maxRecDepth 100000 in
theorem cp_255 : lw_tbl[1922]? = some (codeC 255) := rfl
set_option maxRecDepth 100000 in
theorem cp_256 : lw_tbl[1919]? = some (codeC 256) := rfl
set_option maxRecDepth 100000 in
theorem cp_257 : lw_tbl[1916]? = some (codeC 257) := rfl
set_option maxRecDepth 100000 in
theorem cp_258 : lw_tbl[1926]? = some (codeC 258) := rfl
set_option maxRecDepth 100000 in
theorem cp_259 : lw_tbl[1934]? = some (codeC 259) := rfl
set_option maxRecDepth 100000 in
theorem cp_260 : lw_tbl[1930]? = some (codeC 260) := rfl
set_option maxRecDepth 100000 in
theorem cp_261 : lw_tbl[1938]? = some (codeC 261) := rfl
set_option maxRecDepth 100000 in
theorem cp_262 : lw_tbl[1942]? = some (codeC 262) := rfl
set_option maxRecDepth 100000 in
theorem cp_263 : lw_tbl[1946]? = some (codeC 263) := rfl
set_option maxRecDepth 100000 in
theorem cp_264 : lw_tbl[1950]? = some (codeC 264) := rfl
set_option maxRecDepth 100000 in
theorem cp_265 : lw_tbl[1965]? = some (codeC 265) := rfl
set_option maxRecDepth 100000 in
theorem cp_266 : lw_tbl[1961]? = some (codeC 266) := rfl
set_option maxRecDepth 100000 in
theorem cp_267 : lw_tbl[1957]? = some (codeC 267) := rfl
set_option maxRecDepth 100000 in
theorem cp_268 : lw_tbl[1954]? = some (codeC 268) := rfl
set_option maxRecDepth 100000 in
theorem cp_269 : lw_tbl[1970]? = some (codeC 269) := rfl
set_option maxRecDepth 100000 in
theorem cp_270 : lw_tbl[1982]? = some (codeC 270) := rfl
set_option maxRecDepth 100000 in
theorem cp_271 : lw_tbl[1978]? = some (codeC 271) := rfl
set_option maxRecDepth 100000 in
theorem cp_272 : lw_tbl[1974]? = some (codeC 272) := rfl
set_option maxRecDepth 100000 in
theorem cp_273 : lw_tbl[1986]? = some (codeC 273) := rfl
set_option maxRecDepth 100000 in
theorem cp_274 : lw_tbl[1990]? = some (codeC 274) := rfl
set_option maxRecDepth 100000 in
theorem cp_275 : lw_tbl[1994]? = some (codeC 275) := rfl
set_option maxRecDepth 100000 in
theorem cp_276 : lw_tbl[757]? = some (codeC 276) := rfl
set_option maxRecDepth 100000 in
theorem cp_277 : lw_tbl[955]? = some (codeC 277) := rfl
set_option maxRecDepth 100000 in
theorem cp_278 : lw_tbl[998]? = some (codeC 278) := rfl
set_option maxRecDepth 100000 in
theorem cp_279 : lw_tbl[1084]? = some (codeC 279) := rfl
set_option maxRecDepth 100000 in
theorem cp_280 : lw_tbl[1103]? = some (codeC 280) := rfl
set_option maxRecDepth 100000 in
theorem cp_281 : lw_tbl[1124]? = some (codeC 281) := rfl
set_option maxRecDepth 100000 in
theorem cp_282 : lw_tbl[1163]? = some (codeC 282) := rfl
set_option maxRecDepth 100000 in
theorem cp_283 : lw_tbl[1176]? = some (codeC 283) := rfl
set_option maxRecDepth 100000 in
theorem cp_284 : lw_tbl[1184]? = some (codeC 284) := rfl
set_option maxRecDepth 100000 in
theorem cp_285 : lw_tbl[1196]? = some (codeC 285) := rfl
set_option maxRecDepth 100000 in
theorem cp_286 : lw_tbl[1204]? = some (codeC 286) := rfl
set_option maxRecDepth 100000 in
theorem cp_287 : lw_tbl[1212]? = some (codeC 287) := rfl
set_option maxRecDepth 100000 in
theorem cp_288 : lw_tbl[1220]? = some (codeC 288) := rfl
set_option maxRecDepth 100000 in
theorem cp_289 : lw_tbl[1227]? = some (codeC 289) := rfl
set_option maxRecDepth 100000 in
theorem cp_290 : lw_tbl[1234]? = some (codeC 290) := rfl
set_option maxRecDepth 100000 in
theorem cp_291 : lw_tbl[1251]? = some (codeC 291) := rfl
set_option maxRecDepth 100000 in
theorem cp_292 : lw_tbl[1262]? = some (codeC 292) := rfl
set_option maxRecDepth 100000 in
theorem cp_293 : lw_tbl[1269]? = some (codeC 293) := rfl
set_option maxRecDepth 100000 in
theorem cp_294 : lw_tbl[1290]? = some (codeC 294) := rfl
set_option maxRecDepth 100000 in
theorem cp_295 : lw_tbl[1307]? = some (codeC 295) := rfl
set_option maxRecDepth 100000 in
theorem cp_296 : lw_tbl[1318]? = some (codeC 296) := rfl
set_option maxRecDepth 100000 in
theorem cp_297 : lw_tbl[1331]? = some (codeC 297) := rfl
set_option maxRecDepth 100000 in
theorem cp_298 : lw_tbl[1342]? = some (codeC 298) := rfl
set_option maxRecDepth 100000 in
theorem cp_299 : lw_tbl[1351]? = some (codeC 299) := rfl
set_option maxRecDepth 100000 in
theorem cp_300 : lw_tbl[1358]? = some (codeC 300) := rfl
set_option maxRecDepth 100000 in
theorem cp_301 : lw_tbl[1365]? = some (codeC 301) := rfl
set_option maxRecDepth 100000 in
theorem cp_302 : lw_tbl[1372]? = some (codeC 302) := rfl
set_option maxRecDepth 100000 in
theorem cp_303 : lw_tbl[1379]? = some (codeC 303) := rfl
set_option maxRecDepth 100000 in
theorem cp_304 : lw_tbl[1403]? = some (codeC 304) := rfl
set_option maxRecDepth 100000 in
theorem cp_305 : lw_tbl[635]? = some (codeC 305) := rfl
def yl_st : List (Nat × Nat) := [(0, 614), (1, 665), (2, 662), (3, 637), (4, 502), (5, 888), (6, 880), (11, 883), (64, 990), (68, 659), (107, 1284), (159, 1324), (160, 1327), (161, 1337), (166, 1581), (167, 1768), (168, 1739), (169, 1697), (174, 1637), (175, 1616), (178, 1619), (188, 1626), (192, 1426), (193, 1716), (202, 1765), (209, 1754), (217, 1771), (255, 1921), (256, 1918), (267, 1956), (276, 756), (277, 954), (278, 997), (279, 1083), (280, 1102), (281, 1123), (282, 1162), (283, 1175), (284, 1183), (285, 1195), (286, 1203), (287, 1211), (288, 1219), (289, 1226), (290, 1233), (291, 1250), (292, 1261), (293, 1268), (294, 1289), (295, 1306), (296, 1317), (297, 1330), (298, 1341), (299, 1350), (300, 1357), (301, 1364), (302, 1371), (303, 1378), (304, 1402)]
def yl_in : List (Nat × Nat) := [(7, 862), (8, 872), (9, 866), (10, 876), (12, 188), (13, 573), (14, 577), (15, 839), (16, 835), (17, 844), (18, 945), (19, 994), (20, 941), (21, 928), (22, 859), (23, 911), (24, 391), (25, 515), (26, 709), (27, 648), (28, 1111), (29, 682), (30, 1062), (31, 626), (32, 644), (33, 1155), (34, 1159), (35, 622), (36, 618), (37, 630), (38, 714), (39, 1116), (40, 1120), (41, 1066), (42, 1070), (43, 1074), (44, 1078), (45, 718), (46, 244), (47, 849), (48, 854), (49, 915), (50, 920), (51, 924), (52, 933), (53, 937), (54, 669), (55, 701), (56, 729), (57, 1314), (58, 695), (59, 315), (60, 320), (61, 963), (62, 967), (63, 971), (65, 975), (66, 980), (67, 656), (69, 238), (70, 652), (71, 611), (72, 607), (73, 603), (74, 1058), (75, 1258), (76, 358), (77, 1010), (78, 1014), (79, 1018), (80, 1026), (81, 1030), (82, 1035), (83, 1046), (84, 1050), (85, 1054), (86, 494), (87, 499), (88, 1091), (89, 1095), (90, 402), (91, 951), (92, 1005), (93, 1041), (94, 589), (95, 737), (96, 745), (97, 426), (98, 598), (99, 673), (100, 677), (101, 686), (102, 1241), (103, 1247), (104, 446), (105, 1276), (106, 1280), (108, 1297), (109, 1301), (110, 476), (111, 1386), (112, 1390), (113, 1394), (114, 180), (115, 568), (116, 760), (117, 957), (118, 1000), (119, 1086), (120, 580), (121, 584), (122, 1105), (123, 1127), (124, 1165), (125, 1178), (126, 1186), (127, 1198), (128, 1206), (129, 1214), (130, 1222), (131, 593), (132, 1229), (133, 1236), (134, 1253), (135, 1264), (136, 1271), (137, 1292), (138, 689), (139, 1309), (140, 704), (141, 1320), (142, 1333), (143, 1344), (144, 1353), (145, 1360), (146, 1367), (147, 723), (148, 1374), (149, 1381), (150, 1405), (151, 732), (152, 740), (153, 748), (154, 752), (155, 765), (156, 1132), (157, 1170), (158, 1191), (162, 1412), (163, 1419), (164, 1569), (165, 1585), (170, 1573), (171, 1597), (172, 1593), (173, 1623), (176, 1634), (177, 1613), (179, 1609), (180, 1630), (181, 1682), (182, 1646), (183, 1690), (184, 1589), (185, 1650), (186, 1686), (187, 1605), (189, 1642), (190, 1601), (191, 1577), (194, 1423), (195, 1674), (196, 1670), (197, 1658), (198, 1662), (199, 1678), (200, 1666), (201, 1653), (203, 1762), (204, 1713), (205, 1709), (206, 1693), (207, 1700), (208, 1758), (210, 1747), (211, 1751), (212, 1743), (213, 1736), (214, 1732), (215, 1827), (216, 1728), (218, 1775), (219, 1724), (220, 1720), (221, 1704), (222, 1778), (223, 1787), (224, 1782), (225, 1795), (226, 1803), (227, 1815), (228, 1790), (229, 1798), (230, 1806), (231, 1810), (232, 1818), (233, 1822), (234, 1830), (235, 1834), (236, 1838), (237, 1851), (238, 1847), (239, 1842), (240, 1854), (241, 1863), (242, 1858), (243, 1871), (244, 1866), (245, 1874), (246, 1883), (247, 1878), (248, 1891), (249, 1895), (250, 1886), (251, 1898), (252, 1907), (253, 1902), (254, 1910), (257, 1914), (258, 1924), (259, 1933), (260, 1928), (261, 1936), (262, 1940), (263, 1944), (264, 1948), (265, 1964), (266, 1960), (268, 1952), (269, 1968), (270, 1981), (271, 1977), (272, 1972), (273, 1984), (274, 1988), (275, 1992), (305, 634)]
def yl_se : List (Nat × Nat) := [(7, 863), (8, 873), (9, 867), (10, 877), (13, 3), (14, 4), (15, 35), (16, 34), (17, 36), (18, 48), (19, 55), (20, 47), (21, 44), (22, 39), (23, 40), (25, 2), (26, 26), (27, 16), (28, 75), (29, 22), (30, 68), (31, 12), (32, 15), (33, 79), (34, 80), (35, 11), (36, 10), (37, 13), (38, 27), (39, 76), (40, 77), (41, 69), (42, 70), (43, 71), (44, 72), (45, 28), (47, 37), (48, 38), (49, 41), (50, 42), (51, 43), (52, 45), (53, 46), (54, 19), (55, 25), (56, 29), (57, 90), (58, 24), (60, 0), (61, 50), (62, 51), (63, 52), (65, 53), (66, 54), (67, 18), (70, 17), (71, 9), (72, 8), (73, 7), (74, 67), (75, 85), (77, 57), (78, 58), (79, 59), (80, 60), (81, 61), (82, 62), (83, 64), (84, 65), (85, 66), (87, 1), (88, 73), (89, 74), (91, 49), (92, 56), (93, 63), (94, 5), (95, 30), (96, 31), (98, 6), (99, 20), (100, 21), (101, 23), (102, 83), (103, 84), (105, 86), (106, 87), (108, 88), (109, 89), (111, 91), (112, 92), (113, 93), (115, 569), (116, 761), (117, 958), (118, 1001), (119, 1087), (120, 581), (121, 585), (122, 1106), (123, 1128), (124, 1166), (125, 1179), (126, 1187), (127, 1199), (128, 1207), (129, 1215), (130, 1223), (131, 594), (132, 1230), (133, 1237), (134, 1254), (135, 1265), (136, 1272), (137, 1293), (138, 690), (139, 1310), (140, 705), (141, 1321), (142, 1334), (143, 1345), (144, 1354), (145, 1361), (146, 1368), (147, 724), (148, 1375), (149, 1382), (150, 1406), (151, 733), (152, 741), (153, 749), (154, 753), (155, 32), (156, 78), (157, 81), (158, 82), (163, 94), (164, 1570), (165, 96), (170, 1574), (171, 99), (172, 98), (173, 104), (176, 106), (177, 103), (179, 102), (180, 105), (181, 116), (182, 108), (183, 118), (184, 97), (185, 109), (186, 117), (187, 101), (189, 107), (190, 100), (191, 1578), (194, 95), (195, 114), (196, 113), (197, 110), (198, 111), (199, 115), (200, 112), (201, 1654), (203, 130), (204, 120), (205, 119), (206, 1694), (207, 1701), (208, 129), (210, 127), (211, 128), (212, 126), (213, 125), (214, 124), (215, 136), (216, 123), (218, 131), (219, 122), (220, 121), (221, 1705), (222, 1779), (223, 132), (224, 1783), (225, 133), (226, 134), (227, 135), (228, 1791), (229, 1799), (230, 1807), (231, 1811), (232, 1819), (233, 1823), (234, 1831), (235, 1835), (236, 1839), (237, 138), (238, 137), (239, 1843), (240, 1855), (241, 139), (242, 1859), (243, 140), (244, 1867), (245, 1875), (246, 141), (247, 1879), (248, 142), (249, 143), (250, 1887), (251, 1899), (252, 144), (253, 1903), (254, 1911), (257, 1915), (258, 1925), (259, 145), (260, 1929), (261, 1937), (262, 1941), (263, 1945), (264, 1949), (265, 147), (266, 146), (268, 1953), (269, 1969), (270, 149), (271, 148), (272, 1973), (273, 1985), (274, 1989), (275, 1993), (305, 14)]
def yl_ii : List (Nat × Nat) := [(0, 170), (1, 170), (2, 170), (3, 175), (4, 164), (5, 173), (6, 172), (7, 171), (8, 171), (9, 171), (10, 171), (11, 171), (12, 152), (13, 152), (14, 152), (15, 152), (16, 152), (17, 152), (18, 152), (19, 152), (20, 152), (21, 152), (22, 152), (23, 152), (24, 158), (25, 158), (26, 158), (27, 158), (28, 158), (29, 158), (30, 158), (31, 158), (32, 158), (33, 158), (34, 158), (35, 158), (36, 158), (37, 158), (38, 158), (39, 158), (40, 158), (41, 158), (42, 158), (43, 158), (44, 158), (45, 158), (46, 154), (47, 154), (48, 154), (49, 154), (50, 154), (51, 154), (52, 154), (53, 154), (54, 154), (55, 154), (56, 154), (57, 154), (58, 154), (59, 155), (60, 155), (61, 155), (62, 155), (63, 155), (64, 155), (65, 155), (66, 155), (67, 155), (68, 155), (69, 153), (70, 153), (71, 153), (72, 153), (73, 153), (74, 153), (75, 153), (76, 157), (77, 157), (78, 157), (79, 157), (80, 157), (81, 157), (82, 157), (83, 157), (84, 157), (85, 157), (86, 163), (87, 163), (88, 163), (89, 163), (90, 159), (91, 159), (92, 159), (93, 159), (94, 159), (95, 159), (96, 159), (97, 160), (98, 160), (99, 160), (100, 160), (101, 160), (102, 160), (103, 160), (104, 161), (105, 161), (106, 161), (107, 161), (108, 161), (109, 161), (110, 162), (111, 162), (112, 162), (113, 162), (114, 151), (115, 151), (116, 151), (117, 151), (118, 151), (119, 151), (120, 151), (121, 151), (122, 151), (123, 151), (124, 151), (125, 151), (126, 151), (127, 151), (128, 151), (129, 151), (130, 151), (131, 151), (132, 151), (133, 151), (134, 151), (135, 151), (136, 151), (137, 151), (138, 151), (139, 151), (140, 151), (141, 151), (142, 151), (143, 151), (144, 151), (145, 151), (146, 151), (147, 151), (148, 151), (149, 151), (150, 151), (151, 151), (152, 151), (153, 151), (154, 151), (155, 151), (156, 151), (157, 151), (158, 151), (159, 151), (160, 151), (161, 151), (162, 165), (163, 165), (164, 165), (165, 165), (166, 165), (167, 165), (168, 165), (169, 165), (170, 165), (171, 165), (172, 165), (173, 165), (174, 165), (175, 165), (176, 165), (177, 165), (178, 165), (179, 165), (180, 165), (181, 165), (182, 165), (183, 165), (184, 165), (185, 165), (186, 165), (187, 165), (188, 165), (189, 165), (190, 165), (191, 165), (192, 165), (193, 165), (194, 165), (195, 165), (196, 165), (197, 165), (198, 165), (199, 165), (200, 165), (201, 165), (202, 165), (203, 165), (204, 165), (205, 165), (206, 165), (207, 165), (208, 165), (209, 165), (210, 165), (211, 165), (212, 165), (213, 165), (214, 165), (215, 165), (216, 165), (217, 165), (218, 165), (219, 165), (220, 165), (221, 165), (222, 165), (223, 165), (224, 165), (225, 165), (226, 165), (227, 165), (228, 165), (229, 165), (230, 165), (231, 165), (232, 165), (233, 165), (234, 165), (235, 165), (236, 165), (237, 165), (238, 165), (239, 165), (240, 165), (241, 165), (242, 165), (243, 165), (244, 165), (245, 165), (246, 165), (247, 165), (248, 165), (249, 165), (250, 165), (251, 165), (252, 165), (253, 165), (254, 165), (255, 165), (256, 165), (257, 165), (258, 165), (259, 165), (260, 165), (261, 165), (262, 165), (263, 165), (264, 165), (265, 165), (266, 165), (267, 165), (268, 165), (269, 165), (270, 165), (271, 165), (272, 165), (273, 165), (274, 165), (275, 165), (276, 150), (277, 150), (278, 150), (279, 150), (280, 150), (281, 150), (282, 150), (283, 150), (284, 150), (285, 150), (286, 150), (287, 150), (288, 150), (289, 150), (290, 150), (291, 150), (292, 150), (293, 150), (294, 150), (295, 150), (296, 150), (297, 150), (298, 150), (299, 150), (300, 150), (301, 150), (302, 150), (303, 150), (304, 150), (305, 158)]
theorem yl_st_ok : yl_st.all (fun q => decide (lw_tbl[q.2]? = some (.static (yn q.1)))) = true := by decide +kernel
theorem yl_in_ok : yl_in.all (fun q => decide (lw_tbl[q.2]? = some (.instanceMethod (yn q.1)))) = true := by decide +kernel
theorem yl_se_ok : yl_se.all (fun q => decide (lw_tbl[q.2]? = some (.selects (yn q.1).cls (yn q.1) (yn q.1)))) = true := by decide +kernel
theorem yl_ii_ok : yl_ii.all (fun q => decide (lw_tbl[q.2]? = some (.initialized (yn q.1).cls))) = true := by decide +kernel
def kf : List (Nat × Nat × Nat × Nat × Nat) := [(0, 10, 0, 0, 518), (0, 19, 0, 1, 519), (0, 26, 0, 2, 520), (0, 33, 0, 3, 521), (0, 37, 0, 4, 522), (0, 43, 0, 5, 523), (0, 50, 0, 6, 524), (0, 57, 0, 7, 525), (0, 64, 0, 8, 526), (0, 71, 0, 9, 527), (0, 78, 0, 10, 528), (0, 85, 0, 11, 529), (0, 89, 0, 12, 530), (0, 137, 0, 13, 531), (0, 259, 0, 14, 532), (0, 359, 0, 15, 533), (11, 9, 11, 0, 504), (11, 24, 11, 1, 506), (6, 11, 6, 0, 394), (9, 11, 9, 0, 449), (9, 15, 9, 1, 450), (9, 40, 9, 2, 451), (9, 43, 9, 3, 453), (9, 72, 9, 4, 455), (9, 75, 9, 5, 457), (7, 13, 7, 0, 405), (7, 17, 7, 1, 406), (7, 20, 7, 2, 407), (7, 23, 7, 3, 408), (7, 27, 7, 4, 410), (3, 9, 3, 0, 247), (3, 15, 3, 1, 250), (3, 18, 3, 2, 253), (3, 21, 3, 3, 256), (3, 24, 3, 4, 260), (3, 27, 3, 5, 263), (3, 30, 3, 6, 265), (3, 33, 3, 10, 281), (3, 37, 3, 11, 283), (3, 40, 3, 7, 267), (3, 43, 3, 8, 273), (3, 46, 3, 9, 279), (4, 9, 4, 0, 327), (4, 15, 4, 1, 328), (4, 30, 4, 2, 329), (8, 9, 8, 0, 429), (8, 15, 8, 1, 430), (8, 18, 8, 2, 431), (8, 21, 8, 3, 432), (2, 11, 2, 0, 337), (2, 20, 2, 1, 340), (2, 25, 2, 2, 346), (5, 11, 5, 0, 361), (5, 15, 5, 1, 362), (5, 18, 5, 2, 363), (5, 21, 5, 3, 364), (5, 24, 5, 4, 365), (5, 86, 5, 5, 366), (5, 89, 5, 6, 368), (5, 92, 5, 7, 370), (1, 9, 1, 0, 191), (1, 15, 1, 9, 211), (1, 19, 1, 1, 192), (1, 22, 1, 8, 210), (1, 34, 1, 2, 194), (1, 37, 1, 3, 195), (1, 43, 1, 5, 203), (1, 46, 1, 6, 205), (1, 50, 1, 4, 199), (1, 61, 1, 7, 208), (10, 7, 10, 0, 479), (10, 13, 10, 1, 480), (12, 9, 12, 3, 1431), (12, 13, 12, 9, 1437), (12, 17, 12, 10, 1438), (12, 20, 12, 11, 1439), (12, 23, 12, 12, 1440), (12, 28, 12, 13, 1441), (12, 31, 12, 14, 1442), (12, 34, 12, 15, 1443), (12, 37, 12, 16, 1444), (12, 40, 12, 17, 1445), (12, 43, 12, 18, 1446), (12, 46, 12, 21, 1449), (12, 49, 12, 22, 1450), (12, 52, 12, 23, 1451), (12, 55, 12, 24, 1452), (12, 58, 12, 25, 1453), (12, 61, 12, 26, 1454), (12, 64, 12, 27, 1455), (12, 67, 12, 29, 1457), (12, 70, 12, 30, 1458), (12, 73, 12, 31, 1459), (12, 76, 12, 32, 1460), (12, 79, 12, 40, 1468), (12, 82, 12, 41, 1469), (12, 85, 12, 43, 1471), (12, 88, 12, 44, 1472), (12, 98, 12, 0, 1428), (12, 101, 12, 1, 1429), (12, 104, 12, 2, 1430), (12, 107, 12, 4, 1432), (12, 114, 12, 5, 1433), (12, 117, 12, 6, 1434), (12, 154, 12, 7, 1435), (12, 157, 12, 8, 1436), (12, 195, 12, 19, 1447), (12, 198, 12, 33, 1461), (12, 201, 12, 34, 1462), (12, 204, 12, 35, 1463), (12, 207, 12, 36, 1464), (12, 210, 12, 20, 1448), (12, 254, 12, 28, 1456), (12, 302, 12, 38, 1466), (12, 312, 12, 39, 1467), (12, 334, 12, 42, 1470), (12, 374, 12, 45, 1473), (12, 387, 12, 37, 1465)]
def kn : List (Nat × Nat × Nat × Nat × Nat) := [(0, 92, 2, 1, 341), (0, 95, 3, 10, 282), (0, 110, 1, 1, 193), (0, 124, 1, 8, 209), (0, 127, 2, 2, 347), (0, 140, 3, 7, 270), (0, 168, 5, 7, 369), (0, 171, 5, 6, 367), (0, 174, 3, 8, 278), (0, 180, 11, 1, 507), (0, 183, 1, 9, 212), (0, 190, 7, 3, 409), (0, 193, 3, 9, 280), (0, 203, 3, 11, 284), (0, 221, 3, 0, 249), (0, 225, 3, 1, 252), (0, 244, 3, 2, 255), (0, 250, 3, 3, 259), (0, 253, 3, 4, 262), (0, 269, 3, 5, 264), (0, 272, 3, 6, 266), (0, 289, 2, 0, 339), (0, 306, 8, 3, 433), (0, 321, 9, 2, 452), (0, 324, 9, 3, 454), (0, 330, 9, 4, 456), (0, 333, 9, 5, 458), (0, 376, 10, 1, 481), (0, 385, 7, 4, 411), (11, 28, 1, 4, 198), (11, 46, 1, 7, 206), (6, 40, 3, 7, 272), (6, 46, 3, 11, 285), (9, 19, 2, 1, 344), (9, 25, 3, 8, 276), (9, 31, 11, 0, 505), (9, 54, 2, 0, 338), (9, 59, 3, 3, 258), (7, 34, 6, 0, 395), (3, 55, 1, 4, 196), (3, 70, 1, 5, 201), (3, 105, 1, 7, 207), (4, 65, 1, 4, 200), (4, 80, 1, 5, 204), (8, 30, 2, 1, 342), (8, 36, 3, 8, 275), (8, 42, 3, 7, 269), (2, 42, 3, 4, 261), (2, 45, 3, 1, 251), (2, 48, 3, 3, 257), (2, 63, 3, 0, 248), (2, 69, 3, 2, 254), (5, 38, 1, 4, 197), (5, 54, 1, 5, 202), (5, 67, 3, 8, 277), (5, 76, 3, 7, 271), (5, 125, 2, 1, 345), (10, 16, 2, 1, 343), (10, 22, 3, 8, 274), (10, 27, 3, 7, 268)]
def ks : List (Nat × Nat × Nat × Nat) := [(13, 9, 0, 2013), (13, 15, 1, 2014)]
theorem kf_ok : kf.all (fun q => decide (lw_tbl[q.2.2.2.2]? = some (.fieldLink (onm q.1) q.2.1 (mclD q.2.2.1).1 ((mclD q.2.2.1).2.1 q.2.2.2.1).2.1 ((mclD q.2.2.1).2.1 q.2.2.2.1).2.2.1)) && decide (q.2.2.1 < 13) && decide (q.2.2.2.1 < nfl q.2.2.1)) = true := by decide +kernel
theorem kn_ok : kn.all (fun q => decide (lw_tbl[q.2.2.2.2]? = some (.fieldLinkNest (onm q.1) q.2.1 (mclD q.2.2.1).1 ((mclD q.2.2.1).2.1 q.2.2.2.1).2.1 ((mclD q.2.2.1).2.1 q.2.2.2.1).2.2.1 "DimpleWells")) && decide (q.2.2.1 < 13) && decide (q.2.2.2.1 < nfl q.2.2.1)) = true := by decide +kernel
def sfn (x : Nat) : String × String := if x = 0 then ("value", "[B") else ("coder", "B")
theorem ks_ok : ks.all (fun q => decide (lw_tbl[q.2.2.2]? = some (.fieldLink (onm q.1) q.2.1 "java/lang/String" (sfn q.2.2.1).1 (sfn q.2.2.1).2)) && decide (q.2.2.1 < 2)) = true := by decide +kernel
def kc : List (Nat × Nat × Nat × Nat) := [(0, 7, 1, 185), (0, 16, 2, 235), (0, 23, 5, 355), (0, 30, 6, 388), (0, 40, 7, 399), (0, 47, 8, 423), (0, 54, 9, 443), (0, 61, 10, 473), (0, 68, 3, 487), (0, 75, 4, 489), (0, 82, 11, 491), (2, 9, 4, 312), (2, 17, 3, 241), (14, 8, 0, 177), (14, 108, 12, 1409)]
def kx : List (Nat × Nat × Nat × Nat) := [(0, 262, 1, 1134), (0, 362, 2, 767), (14, 13, 2, 758), (14, 31, 1, 1125)]
def xnm (E : Nat) : String := if E = 1 then "java/util/NoSuchElementException" else "java/lang/IllegalArgumentException"
theorem kc_ok : kc.all (fun q => decide (lw_tbl[q.2.2.2]? = some (.classLink (onm q.1) q.2.1 (mclD q.2.2.1).1)) && decide (q.2.2.1 < 13)) = true := by decide +kernel
theorem kx_ok : kx.all (fun q => decide (lw_tbl[q.2.2.2]? = some (.classLink (onm q.1) q.2.1 (xnm q.2.2.1))) && decide (q.2.2.1 = 1 ∨ q.2.2.1 = 2)) = true := by decide +kernel
def km : List (Nat × Nat × Nat × Nat) := [(0, 113, 155, 763), (0, 143, 2, 960), (0, 218, 156, 1130), (0, 247, 157, 1168), (0, 275, 158, 1189), (0, 342, 159, 1323), (0, 346, 160, 1326), (0, 350, 161, 1336), (0, 379, 1, 1408), (11, 15, 87, 497), (11, 18, 4, 501), (11, 33, 89, 1093), (11, 37, 2, 1097), (6, 15, 4, 517), (6, 27, 305, 632), (6, 31, 40, 1118), (6, 35, 2, 720), (6, 49, 1, 721), (9, 36, 106, 1278), (9, 50, 107, 1283), (9, 62, 0, 1286), (9, 78, 109, 1299), (9, 82, 4, 1303), (9, 88, 1, 1304), (7, 30, 92, 1043), (3, 49, 4, 851), (3, 60, 48, 852), (3, 77, 49, 913), (3, 84, 50, 918), (3, 91, 51, 922), (3, 95, 52, 931), (3, 98, 53, 935), (3, 108, 55, 699), (3, 112, 54, 697), (3, 116, 3, 698), (4, 18, 60, 318), (4, 34, 62, 965), (4, 44, 63, 969), (4, 54, 66, 978), (4, 58, 65, 973), (4, 61, 64, 989), (4, 90, 68, 658), (8, 24, 4, 600), (8, 53, 99, 671), (8, 62, 101, 684), (8, 66, 100, 675), (8, 69, 1, 679), (8, 75, 3, 1243), (8, 84, 103, 1245), (2, 33, 2, 661), (2, 39, 1, 664), (2, 51, 0, 613), (2, 76, 3, 636), (2, 87, 71, 609), (2, 91, 70, 650), (2, 94, 72, 605), (5, 28, 78, 1012), (5, 41, 79, 1016), (5, 64, 80, 1024), (5, 72, 81, 1028), (5, 79, 82, 1033), (5, 95, 84, 1048), (5, 99, 85, 1052), (1, 25, 15, 837), (1, 28, 2, 841), (1, 40, 17, 842), (1, 53, 23, 930), (1, 57, 18, 943), (1, 64, 7, 861), (1, 69, 8, 871), (10, 30, 112, 1388), (10, 40, 113, 1392), (10, 48, 1, 1398), (14, 7, 116, 759), (14, 15, 117, 956), (14, 18, 118, 999), (14, 21, 119, 1085), (14, 24, 122, 1104), (14, 27, 123, 1126), (14, 33, 124, 1164), (14, 36, 125, 1177), (14, 39, 126, 1185), (14, 42, 127, 1197), (14, 45, 128, 1205), (14, 48, 129, 1213), (14, 52, 130, 1221), (14, 55, 132, 1228), (14, 58, 133, 1235), (14, 61, 134, 1252), (14, 64, 135, 1263), (14, 67, 136, 1270), (14, 70, 137, 1291), (14, 73, 139, 1308), (14, 76, 141, 1319), (14, 80, 142, 1332), (14, 84, 143, 1343), (14, 88, 144, 1352), (14, 91, 145, 1359), (14, 94, 146, 1366), (14, 97, 148, 1373), (14, 100, 149, 1380), (14, 103, 150, 1404), (14, 107, 114, 179), (14, 110, 162, 1411), (14, 111, 115, 567), (14, 115, 170, 1572), (14, 116, 276, 755), (14, 121, 191, 1576), (14, 122, 164, 1568), (14, 126, 277, 953), (14, 128, 201, 1652), (14, 129, 278, 996), (14, 131, 221, 1703), (14, 132, 279, 1082), (14, 134, 206, 1692), (14, 135, 120, 579), (14, 138, 207, 1699), (14, 139, 121, 583), (14, 142, 222, 1777), (14, 143, 280, 1101), (14, 145, 224, 1781), (14, 146, 281, 1122), (14, 149, 228, 1789), (14, 150, 282, 1161), (14, 152, 229, 1797), (14, 153, 283, 1174), (14, 155, 230, 1805), (14, 156, 284, 1182), (14, 158, 231, 1809), (14, 159, 285, 1194), (14, 161, 232, 1817), (14, 162, 286, 1202), (14, 164, 233, 1821), (14, 165, 287, 1210), (14, 168, 234, 1829), (14, 169, 288, 1218), (14, 171, 235, 1833), (14, 172, 131, 592), (14, 175, 239, 1841), (14, 176, 289, 1225), (14, 178, 240, 1853), (14, 179, 290, 1232), (14, 181, 242, 1857), (14, 182, 291, 1249), (14, 184, 244, 1865), (14, 185, 292, 1260), (14, 187, 245, 1873), (14, 188, 293, 1267), (14, 190, 247, 1877), (14, 191, 294, 1288), (14, 193, 250, 1885), (14, 194, 138, 688), (14, 197, 251, 1897), (14, 198, 295, 1305), (14, 200, 253, 1901), (14, 201, 140, 703), (14, 204, 236, 1837), (14, 205, 296, 1316), (14, 208, 257, 1913), (14, 209, 297, 1329), (14, 211, 258, 1923), (14, 212, 298, 1340), (14, 215, 260, 1927), (14, 216, 299, 1349), (14, 218, 261, 1935), (14, 219, 300, 1356), (14, 221, 262, 1939), (14, 222, 301, 1363), (14, 224, 263, 1943), (14, 225, 147, 722), (14, 228, 254, 1909), (14, 229, 302, 1370), (14, 231, 264, 1947), (14, 232, 303, 1377), (14, 234, 268, 1951), (14, 235, 304, 1401), (14, 238, 269, 1967), (14, 239, 151, 731), (14, 242, 272, 1971), (14, 243, 152, 739), (14, 246, 273, 1983), (14, 247, 153, 747), (14, 250, 274, 1987), (14, 251, 154, 751), (14, 254, 275, 1991), (12, 92, 163, 1417), (12, 95, 194, 1421), (12, 110, 171, 1595), (12, 120, 172, 1591), (12, 123, 174, 1636), (12, 127, 173, 1621), (12, 132, 166, 1580), (12, 136, 175, 1615), (12, 139, 177, 1611), (12, 143, 178, 1618), (12, 147, 179, 1607), (12, 151, 180, 1628), (12, 160, 187, 1603), (12, 163, 188, 1625), (12, 166, 176, 1632), (12, 170, 189, 1640), (12, 174, 182, 1644), (12, 178, 165, 1583), (12, 182, 184, 1587), (12, 185, 190, 1599), (12, 188, 185, 1648), (12, 191, 192, 1425), (12, 213, 198, 1660), (12, 216, 183, 1688), (12, 219, 195, 1672), (12, 222, 200, 1664), (12, 225, 181, 1680), (12, 228, 186, 1684), (12, 231, 196, 1668), (12, 235, 197, 1656), (12, 238, 199, 1676), (12, 241, 167, 1767), (12, 244, 168, 1738), (12, 247, 202, 1764), (12, 251, 204, 1711), (12, 257, 205, 1707), (12, 260, 169, 1696), (12, 263, 203, 1760), (12, 266, 212, 1741), (12, 270, 210, 1745), (12, 273, 211, 1749), (12, 276, 209, 1753), (12, 279, 208, 1756), (12, 283, 213, 1734), (12, 287, 214, 1730), (12, 291, 216, 1726), (12, 295, 217, 1770), (12, 298, 218, 1773), (12, 305, 220, 1718), (12, 308, 219, 1722), (12, 315, 193, 1715), (12, 319, 223, 1785), (12, 322, 226, 1801), (12, 325, 225, 1793), (12, 328, 227, 1813), (12, 331, 215, 1825), (12, 337, 237, 1849), (12, 341, 238, 1845), (12, 344, 241, 1861), (12, 347, 243, 1869), (12, 351, 246, 1881), (12, 354, 248, 1889), (12, 357, 249, 1893), (12, 360, 252, 1905), (12, 363, 255, 1920), (12, 367, 256, 1917), (12, 371, 259, 1931), (12, 378, 265, 1962), (12, 381, 267, 1955), (12, 384, 266, 1958), (12, 390, 270, 1979), (12, 394, 271, 1975), (13, 335, 9, 865), (13, 492, 10, 875), (13, 495, 6, 879), (13, 1059, 5, 887), (15, 9, 11, 882)]
def kw : List (Nat × Nat × Nat × Nat) := [(0, 9, 12, 187), (0, 18, 69, 237), (0, 25, 76, 357), (0, 32, 24, 390), (0, 42, 90, 401), (0, 49, 97, 425), (0, 56, 104, 445), (0, 63, 110, 475), (0, 70, 46, 488), (0, 77, 59, 490), (0, 84, 86, 493), (0, 99, 25, 513), (0, 103, 13, 571), (0, 107, 14, 575), (0, 117, 16, 833), (0, 120, 47, 847), (0, 130, 60, 947), (0, 133, 87, 948), (0, 136, 91, 949), (0, 149, 61, 961), (0, 150, 92, 1003), (0, 154, 15, 1007), (0, 157, 77, 1008), (0, 160, 93, 1039), (0, 164, 83, 1044), (0, 177, 88, 1089), (0, 186, 94, 587), (0, 196, 27, 1108), (0, 200, 28, 1109), (0, 206, 37, 692), (0, 209, 38, 712), (0, 212, 29, 1113), (0, 215, 39, 1114), (0, 228, 31, 1150), (0, 232, 32, 1151), (0, 235, 30, 1152), (0, 238, 33, 1153), (0, 241, 34, 1157), (0, 256, 35, 1173), (0, 279, 36, 1193), (0, 282, 72, 1201), (0, 286, 73, 1209), (0, 292, 70, 1217), (0, 295, 26, 707), (0, 298, 45, 716), (0, 302, 98, 596), (0, 309, 102, 1239), (0, 313, 75, 1256), (0, 317, 105, 1274), (0, 327, 108, 1295), (0, 336, 58, 693), (0, 339, 57, 1312), (0, 356, 54, 726), (0, 367, 40, 1348), (0, 370, 56, 727), (0, 373, 111, 1384), (0, 382, 95, 735), (0, 388, 96, 743), (11, 43, 21, 1098), (11, 49, 23, 1099), (11, 53, 20, 1100), (9, 46, 71, 1282), (9, 68, 70, 1287), (3, 66, 22, 857), (3, 73, 23, 909), (3, 81, 17, 917), (3, 87, 20, 939), (3, 101, 21, 926), (4, 38, 19, 992), (4, 47, 18, 986), (4, 51, 17, 984), (4, 68, 21, 977), (4, 74, 22, 983), (4, 83, 23, 987), (4, 87, 20, 988), (8, 45, 73, 601), (8, 49, 54, 667), (8, 57, 29, 680), (8, 81, 28, 1244), (2, 19, 46, 243), (2, 24, 59, 314), (2, 29, 67, 654), (2, 55, 36, 616), (2, 60, 35, 620), (2, 66, 31, 624), (2, 72, 37, 628), (2, 81, 32, 642), (2, 84, 27, 646), (2, 98, 30, 1060), (2, 102, 41, 1064), (5, 32, 19, 1038), (5, 44, 20, 1037), (5, 50, 22, 1021), (5, 57, 23, 1022), (5, 61, 17, 1023), (5, 82, 21, 1032), (5, 103, 74, 1056), (5, 109, 42, 1068), (5, 114, 43, 1072), (5, 118, 44, 1076), (5, 121, 27, 1080), (5, 129, 45, 1081), (10, 34, 45, 1400), (10, 44, 74, 1397), (10, 54, 42, 1399)]
def ko : List (Nat × Nat × Nat) := [(0, 1, 182), (11, 3, 496), (6, 5, 393), (9, 3, 448), (7, 7, 404), (3, 3, 246), (4, 3, 317), (8, 3, 428), (2, 3, 240), (5, 3, 360), (1, 3, 190), (10, 1, 478), (12, 1, 1414)]
def ka : List (Nat × Nat × Nat) := [(6, 21, 711), (7, 37, 591), (4, 24, 324)]
theorem km_ok : km.all (fun q => decide (lw_tbl[q.2.2.2]? = some (.methodLink (onm q.1) q.2.1 (yn q.2.2.1))) && decide (q.2.2.1 < 306)) = true := by decide +kernel
theorem kw_ok : kw.all (fun q => decide (lw_tbl[q.2.2.2]? = some (.methodLinkNest (onm q.1) q.2.1 (yn q.2.2.1) "DimpleWells")) && decide (q.2.2.1 < 306)) = true := by decide +kernel
theorem ko_ok : ko.all (fun q => decide (lw_tbl[q.2.2]? = some (.methodLink (onm q.1) q.2.1 objectInit))) = true := by decide +kernel
theorem ka_ok : ka.all (fun q => decide (lw_tbl[q.2.2]? = some (.methodLink (onm q.1) q.2.1 arraycopyName))) = true := by decide +kernel
def kk : List (Nat × Nat × Int32 × Nat) := [(1, 49, 100000, 846), (10, 58, 1103515245, 1396), (12, 131, 100000, 1639), (12, 377, 1103515245, 1966), (17, 265, 1431655765, 639), (17, 266, 858993459, 640), (17, 267, 252645135, 641)]
theorem kk_ok : kk.all (fun q => decide (lw_tbl[q.2.2.2]? = some (.constant (onm q.1) q.2.1 q.2.2.1))) = true := by decide +kernel
def kl : List (Nat × Nat × Nat × Nat) := [(0, 354, 2, 1339)]
theorem kl_ok : kl.all (fun q => decide (lw_tbl[q.2.2.2]? = some (.constantLong (onm q.1) q.2.1 (Int64.ofNat q.2.2.1)))) = true := by decide +kernel
def kt : List (Nat × Nat × Nat × String × Nat) := [(0, 264, 1000091, "no such street", 1181), (0, 364, 1000092, "bits of no persons", 1347), (0, 391, 1000093, "out of its range", 807), (0, 393, 1000094, "no such person", 1143), (0, 395, 1000095, "no such joke", 1172), (3, 64, 1000002, "person joke street jug drink", 856), (4, 72, 1000003, "strong apart worn told dimples grief near thirst day person", 982), (4, 78, 1000004, "least most", 985), (5, 48, 1000005, "tell grieve cheer pour day again", 1020)]
theorem kt_ok : kt.all (fun q => decide (lw_tbl[q.2.2.2.2]? = some (.stringRef (onm q.1) q.2.1 q.2.2.2.1))) = true := by decide +kernel
