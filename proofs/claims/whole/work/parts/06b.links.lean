/-! what the tables say of methods and links: by program, by places -/
def ynms : List MethodName := [⟨"java/lang/Math", "abs", "(I)I"⟩,
  ⟨"java/lang/Math", "max", "(II)I"⟩,
  ⟨"java/lang/Math", "min", "(II)I"⟩,
  ⟨"java/lang/Integer", "bitCount", "(I)I"⟩,
  ⟨"java/util/Arrays", "fill", "([II)V"⟩,
  ⟨"jdk/internal/util/Preconditions", "checkIndex", "(IILjava/util/function/BiFunction;)I"⟩,
  ⟨"java/lang/StringLatin1", "charAt", "([BI)C"⟩,
  ⟨"java/lang/String", "length", "()I"⟩,
  ⟨"java/lang/String", "charAt", "(I)C"⟩,
  ⟨"java/lang/String", "coder", "()B"⟩,
  ⟨"java/lang/String", "isLatin1", "()Z"⟩,
  ⟨"java/lang/String", "checkIndex", "(II)V"⟩,
  ⟨"DimpleWells$Tape", "<init>", "()V"⟩,
  ⟨"DimpleWells$Tape", "hasRoom", "(I)Z"⟩,
  ⟨"DimpleWells$Tape", "put", "(I)V"⟩,
  ⟨"DimpleWells$Tape", "drop", "()V"⟩,
  ⟨"DimpleWells$Tape", "open", "(I)V"⟩,
  ⟨"DimpleWells$Tape", "next", "()V"⟩,
  ⟨"DimpleWells$Tape", "isSign", "(C)Z"⟩,
  ⟨"DimpleWells$Tape", "atEnd", "()Z"⟩,
  ⟨"DimpleWells$Tape", "take", "(C)Z"⟩,
  ⟨"DimpleWells$Tape", "takeNumber", "(II)I"⟩,
  ⟨"DimpleWells$Tape", "wordOf", "(Ljava/lang/String;)I"⟩,
  ⟨"DimpleWells$Tape", "fail", "(II)Z"⟩,
  ⟨"DimpleWells$Days", "<init>", "()V"⟩,
  ⟨"DimpleWells$Days", "begin", "(I)V"⟩,
  ⟨"DimpleWells$Days", "copy", "(LDimpleWells$Days;)V"⟩,
  ⟨"DimpleWells$Days", "dayNumber", "()I"⟩,
  ⟨"DimpleWells$Days", "jugWater", "()I"⟩,
  ⟨"DimpleWells$Days", "toldBits", "()I"⟩,
  ⟨"DimpleWells$Days", "wasTold", "(I)Z"⟩,
  ⟨"DimpleWells$Days", "griefOf", "(I)I"⟩,
  ⟨"DimpleWells$Days", "thirstOf", "(I)I"⟩,
  ⟨"DimpleWells$Days", "timesOf", "(I)I"⟩,
  ⟨"DimpleWells$Days", "laughedOf", "(I)I"⟩,
  ⟨"DimpleWells$Days", "toldOf", "(I)I"⟩,
  ⟨"DimpleWells$Days", "wornOf", "(II)I"⟩,
  ⟨"DimpleWells$Days", "grieving", "()I"⟩,
  ⟨"DimpleWells$Days", "thirsty", "()I"⟩,
  ⟨"DimpleWells$Days", "allThirst", "()I"⟩,
  ⟨"DimpleWells$Days", "thirstUpTo", "(II)I"⟩,
  ⟨"DimpleWells$Days", "hear", "(IIII)V"⟩,
  ⟨"DimpleWells$Days", "grieve", "(II)Z"⟩,
  ⟨"DimpleWells$Days", "cheer", "(I)Z"⟩,
  ⟨"DimpleWells$Days", "pour", "(I)Z"⟩,
  ⟨"DimpleWells$Days", "passDay", "(LDimpleWells$Land;)V"⟩,
  ⟨"DimpleWells$Land", "<init>", "()V"⟩,
  ⟨"DimpleWells$Land", "read", "(LDimpleWells$Tape;)Z"⟩,
  ⟨"DimpleWells$Land", "readClause", "(LDimpleWells$Tape;I)Z"⟩,
  ⟨"DimpleWells$Land", "isFull", "(I)Z"⟩,
  ⟨"DimpleWells$Land", "readNumbers", "(LDimpleWells$Tape;I)Z"⟩,
  ⟨"DimpleWells$Land", "readPerson", "(LDimpleWells$Tape;)Z"⟩,
  ⟨"DimpleWells$Land", "readJoke", "(LDimpleWells$Tape;)Z"⟩,
  ⟨"DimpleWells$Land", "readStreet", "(LDimpleWells$Tape;)Z"⟩,
  ⟨"DimpleWells$Land", "allPersons", "()I"⟩,
  ⟨"DimpleWells$Land", "withNear", "(I)I"⟩,
  ⟨"DimpleWells$Land", "reachedFrom", "(I)I"⟩,
  ⟨"DimpleWells$Land", "streetsBetween", "(II)I"⟩,
  ⟨"DimpleWells$Land", "fewestBy", "(I)I"⟩,
  ⟨"DimpleWells$Law", "<init>", "()V"⟩,
  ⟨"DimpleWells$Law", "makeStandard", "()V"⟩,
  ⟨"DimpleWells$Law", "read", "(LDimpleWells$Tape;)Z"⟩,
  ⟨"DimpleWells$Law", "readSum", "(LDimpleWells$Tape;I)Z"⟩,
  ⟨"DimpleWells$Law", "readProduct", "(LDimpleWells$Tape;I)Z"⟩,
  ⟨"DimpleWells$Law", "productCode", "(LDimpleWells$Tape;)I"⟩,
  ⟨"DimpleWells$Law", "readUnit", "(LDimpleWells$Tape;I)Z"⟩,
  ⟨"DimpleWells$Law", "add", "(I)Z"⟩,
  ⟨"DimpleWells$Law", "valueBy", "([I)I"⟩,
  ⟨"DimpleWells$Law", "joined", "(III)I"⟩,
  ⟨"DimpleWells$Scene", "<init>", "()V"⟩,
  ⟨"DimpleWells$Scene", "laughAsGiven", "()I"⟩,
  ⟨"DimpleWells$Scene", "giveAll", "(LDimpleWells$Days;II)V"⟩,
  ⟨"DimpleWells$Scene", "laughOf", "(LDimpleWells$Days;II)I"⟩,
  ⟨"DimpleWells$Scene", "waterOf", "(LDimpleWells$Days;II)I"⟩,
  ⟨"DimpleWells$Scene", "tell", "(LDimpleWells$Days;II)I"⟩,
  ⟨"DimpleWells$Scene", "laughTillDry", "(LDimpleWells$Days;IIZ)I"⟩,
  ⟨"DimpleWells$Steps", "<init>", "()V"⟩,
  ⟨"DimpleWells$Steps", "read", "(LDimpleWells$Tape;LDimpleWells$Land;)Z"⟩,
  ⟨"DimpleWells$Steps", "readBlock", "(LDimpleWells$Tape;LDimpleWells$Land;I)Z"⟩,
  ⟨"DimpleWells$Steps", "readStep", "(LDimpleWells$Tape;LDimpleWells$Land;I)Z"⟩,
  ⟨"DimpleWells$Steps", "readNumbers", "(LDimpleWells$Tape;LDimpleWells$Land;I)Z"⟩,
  ⟨"DimpleWells$Steps", "readFirst", "(LDimpleWells$Tape;III)Z"⟩,
  ⟨"DimpleWells$Steps", "readSecond", "(LDimpleWells$Tape;III)Z"⟩,
  ⟨"DimpleWells$Steps", "run", "(LDimpleWells$Scene;LDimpleWells$Days;)V"⟩,
  ⟨"DimpleWells$Steps", "runRows", "(LDimpleWells$Scene;LDimpleWells$Days;III)V"⟩,
  ⟨"DimpleWells$Steps", "isDone", "(LDimpleWells$Scene;LDimpleWells$Days;I)Z"⟩,
  ⟨"DimpleWells$Book", "<init>", "()V"⟩,
  ⟨"DimpleWells$Book", "clear", "()V"⟩,
  ⟨"DimpleWells$Book", "read", "(LDimpleWells$Tape;I)Z"⟩,
  ⟨"DimpleWells$Book", "readLine", "(LDimpleWells$Tape;I)Z"⟩,
  ⟨"DimpleWells$History", "<init>", "()V"⟩,
  ⟨"DimpleWells$History", "clear", "()V"⟩,
  ⟨"DimpleWells$History", "isFull", "()Z"⟩,
  ⟨"DimpleWells$History", "push", "(LDimpleWells$Days;)V"⟩,
  ⟨"DimpleWells$History", "pop", "(LDimpleWells$Days;)Z"⟩,
  ⟨"DimpleWells$History", "keep", "(LDimpleWells$Days;)Z"⟩,
  ⟨"DimpleWells$History", "bring", "(LDimpleWells$Days;)Z"⟩,
  ⟨"DimpleWells$Plan", "<init>", "()V"⟩,
  ⟨"DimpleWells$Plan", "giveBest", "(LDimpleWells$Scene;LDimpleWells$Days;)I"⟩,
  ⟨"DimpleWells$Plan", "mostBy", "(III)I"⟩,
  ⟨"DimpleWells$Plan", "withGiven", "(III)I"⟩,
  ⟨"DimpleWells$Plan", "choose", "(LDimpleWells$Land;I)V"⟩,
  ⟨"DimpleWells$Plan", "fewestFor", "(LDimpleWells$Scene;LDimpleWells$Days;I)I"⟩,
  ⟨"DimpleWells$Plan", "waterOfAll", "(II)I"⟩,
  ⟨"DimpleWells$Guess", "<init>", "()V"⟩,
  ⟨"DimpleWells$Guess", "findPairs", "(LDimpleWells$Scene;LDimpleWells$Days;LDimpleWells$Book;I)V"⟩,
  ⟨"DimpleWells$Guess", "keepPairs", "(LDimpleWells$Scene;LDimpleWells$Days;III)V"⟩,
  ⟨"DimpleWells$Guess", "laughBy", "(LDimpleWells$Scene;II)I"⟩,
  ⟨"DimpleWells$Guess", "findJoke", "(LDimpleWells$Scene;LDimpleWells$Days;LDimpleWells$Book;I)V"⟩,
  ⟨"DimpleWells$Guess", "leftAtWorst", "(LDimpleWells$Scene;I)I"⟩,
  ⟨"DimpleWells$Years", "<init>", "()V"⟩,
  ⟨"DimpleWells$Years", "run", "(LDimpleWells$Scene;LDimpleWells$Days;III)V"⟩,
  ⟨"DimpleWells$Years", "tellByLot", "(LDimpleWells$Scene;LDimpleWells$Days;I)V"⟩,
  ⟨"DimpleWells$Years", "draw", "(I)I"⟩,
  ⟨"DimpleWells", "<init>", "()V"⟩,
  ⟨"DimpleWells", "feed", "(IIIII)I"⟩,
  ⟨"DimpleWells", "land", "(I)I"⟩,
  ⟨"DimpleWells", "law", "(I)I"⟩,
  ⟨"DimpleWells", "work", "(I)I"⟩,
  ⟨"DimpleWells", "book", "(I)I"⟩,
  ⟨"DimpleWells", "fault", "()I"⟩,
  ⟨"DimpleWells", "undo", "()I"⟩,
  ⟨"DimpleWells", "told", "(I)I"⟩,
  ⟨"DimpleWells", "person", "(II)I"⟩,
  ⟨"DimpleWells", "joke", "(II)I"⟩,
  ⟨"DimpleWells", "street", "(II)I"⟩,
  ⟨"DimpleWells", "worn", "(II)I"⟩,
  ⟨"DimpleWells", "laugh", "(II)I"⟩,
  ⟨"DimpleWells", "water", "(II)I"⟩,
  ⟨"DimpleWells", "would", "(IIIIIIIIII)I"⟩,
  ⟨"DimpleWells", "ahead", "(II)I"⟩,
  ⟨"DimpleWells", "best", "()I"⟩,
  ⟨"DimpleWells", "given", "(I)I"⟩,
  ⟨"DimpleWells", "enough", "(I)I"⟩,
  ⟨"DimpleWells", "lasts", "(II)I"⟩,
  ⟨"DimpleWells", "well", "(II)I"⟩,
  ⟨"DimpleWells", "fits", "(II)I"⟩,
  ⟨"DimpleWells", "look", "(II)I"⟩,
  ⟨"DimpleWells", "comfort", "()I"⟩,
  ⟨"DimpleWells", "way", "(II)I"⟩,
  ⟨"DimpleWells", "dry", "()I"⟩,
  ⟨"DimpleWells", "comedians", "(IIII)I"⟩,
  ⟨"DimpleWells", "some", "(IIII)J"⟩,
  ⟨"DimpleWells", "share", "(III)I"⟩,
  ⟨"DimpleWells", "likes", "(II)I"⟩,
  ⟨"DimpleWells", "solemn", "(I)I"⟩,
  ⟨"DimpleWells", "driest", "(I)I"⟩,
  ⟨"DimpleWells", "parts", "()I"⟩,
  ⟨"DimpleWells", "alike", "(I)I"⟩,
  ⟨"DimpleWells", "year", "(IIII)I"⟩,
  ⟨"DimpleWells", "span", "(IIIIII)I"⟩,
  ⟨"DimpleWells", "image", "()I"⟩,
  ⟨"DimpleWells", "restore", "()I"⟩,
  ⟨"DimpleWells", "status", "(I)I"⟩,
  ⟨"DimpleWells", "count", "(I)I"⟩,
  ⟨"DimpleWells", "needRange", "(III)I"⟩,
  ⟨"DimpleWells", "needPerson", "(I)V"⟩,
  ⟨"DimpleWells", "needJoke", "(I)V"⟩,
  ⟨"DimpleWells", "needJokeAndPerson", "(II)V"⟩,
  ⟨"DimpleWells", "staysAt", "(IIIII)Z"⟩,
  ⟨"DimpleWells", "shareOfFame", "(IIII)I"⟩,
  ⟨"DimpleWells", "power", "(II)J"⟩,
  ⟨"DimpleWellsModel", "<init>", "()V"⟩,
  ⟨"DimpleWellsModel", "tellsNothing", "()V"⟩,
  ⟨"DimpleWellsModel", "thrown", "()I"⟩,
  ⟨"DimpleWellsModel", "bad", "(ZII)Z"⟩,
  ⟨"DimpleWellsModel", "in", "(III)Z"⟩,
  ⟨"DimpleWellsModel", "less", "(II)I"⟩,
  ⟨"DimpleWellsModel", "more", "(II)I"⟩,
  ⟨"DimpleWellsModel", "has", "(II)Z"⟩,
  ⟨"DimpleWellsModel", "feed", "(IIIII)I"⟩,
  ⟨"DimpleWellsModel", "byteAt", "(I)I"⟩,
  ⟨"DimpleWellsModel", "blanks", "()V"⟩,
  ⟨"DimpleWellsModel", "wrong", "(II)V"⟩,
  ⟨"DimpleWellsModel", "isDigit", "(I)Z"⟩,
  ⟨"DimpleWellsModel", "isSmall", "(I)Z"⟩,
  ⟨"DimpleWellsModel", "number", "(II)I"⟩,
  ⟨"DimpleWellsModel", "wordHere", "()I"⟩,
  ⟨"DimpleWellsModel", "six", "(IIIIII)I"⟩,
  ⟨"DimpleWellsModel", "isWord", "(IIIIII)Z"⟩,
  ⟨"DimpleWellsModel", "skipWord", "()V"⟩,
  ⟨"DimpleWellsModel", "takes", "(IIIIII)Z"⟩,
  ⟨"DimpleWellsModel", "sign", "(I)V"⟩,
  ⟨"DimpleWellsModel", "takesSign", "(I)Z"⟩,
  ⟨"DimpleWellsModel", "starts", "(I)V"⟩,
  ⟨"DimpleWellsModel", "ends", "()I"⟩,
  ⟨"DimpleWellsModel", "isSeven", "(II)Z"⟩,
  ⟨"DimpleWellsModel", "kindHere", "()I"⟩,
  ⟨"DimpleWellsModel", "mostOf", "(I)I"⟩,
  ⟨"DimpleWellsModel", "isReadStreet", "(II)Z"⟩,
  ⟨"DimpleWellsModel", "clause", "()V"⟩,
  ⟨"DimpleWellsModel", "land", "(I)I"⟩,
  ⟨"DimpleWellsModel", "lays", "([[I[[II)V"⟩,
  ⟨"DimpleWellsModel", "copies", "([I[I)V"⟩,
  ⟨"DimpleWellsModel", "beginsAnew", "()V"⟩,
  ⟨"DimpleWellsModel", "notes", "(II)V"⟩,
  ⟨"DimpleWellsModel", "opensOne", "()Z"⟩,
  ⟨"DimpleWellsModel", "sum", "()V"⟩,
  ⟨"DimpleWellsModel", "product", "()V"⟩,
  ⟨"DimpleWellsModel", "knownHere", "()I"⟩,
  ⟨"DimpleWellsModel", "one", "()V"⟩,
  ⟨"DimpleWellsModel", "law", "(I)I"⟩,
  ⟨"DimpleWellsModel", "by", "(III)I"⟩,
  ⟨"DimpleWellsModel", "byLaw", "()I"⟩,
  ⟨"DimpleWellsModel", "stepHere", "()I"⟩,
  ⟨"DimpleWellsModel", "readsStep", "()V"⟩,
  ⟨"DimpleWellsModel", "book", "(I)I"⟩,
  ⟨"DimpleWellsModel", "fault", "()I"⟩,
  ⟨"DimpleWellsModel", "laughBy", "(IIIIIIIIII)I"⟩,
  ⟨"DimpleWellsModel", "ones", "(I)I"⟩,
  ⟨"DimpleWellsModel", "nearTo", "(I)I"⟩,
  ⟨"DimpleWellsModel", "whoHas", "([II)I"⟩,
  ⟨"DimpleWellsModel", "toldIn", "([II)I"⟩,
  ⟨"DimpleWellsModel", "laughWith", "([IIIIII)I"⟩,
  ⟨"DimpleWellsModel", "laughOf", "([III)I"⟩,
  ⟨"DimpleWellsModel", "waterOf", "([III)I"⟩,
  ⟨"DimpleWellsModel", "tells", "([III)Z"⟩,
  ⟨"DimpleWellsModel", "grieves", "([III)Z"⟩,
  ⟨"DimpleWellsModel", "dayEnds", "([I)V"⟩,
  ⟨"DimpleWellsModel", "does", "([I[I)Z"⟩,
  ⟨"DimpleWellsModel", "goes", "(II)V"⟩,
  ⟨"DimpleWellsModel", "work", "(I)I"⟩,
  ⟨"DimpleWellsModel", "undo", "()I"⟩,
  ⟨"DimpleWellsModel", "sumOf", "([II)I"⟩,
  ⟨"DimpleWellsModel", "told", "(I)I"⟩,
  ⟨"DimpleWellsModel", "isPerson", "(I)Z"⟩,
  ⟨"DimpleWellsModel", "isJoke", "(I)Z"⟩,
  ⟨"DimpleWellsModel", "isNone", "(II)Z"⟩,
  ⟨"DimpleWellsModel", "person", "(II)I"⟩,
  ⟨"DimpleWellsModel", "joke", "(II)I"⟩,
  ⟨"DimpleWellsModel", "street", "(II)I"⟩,
  ⟨"DimpleWellsModel", "worn", "(II)I"⟩,
  ⟨"DimpleWellsModel", "laugh", "(II)I"⟩,
  ⟨"DimpleWellsModel", "water", "(II)I"⟩,
  ⟨"DimpleWellsModel", "would", "(IIIIIIIIII)I"⟩,
  ⟨"DimpleWellsModel", "ahead", "(II)I"⟩,
  ⟨"DimpleWellsModel", "dry", "()I"⟩,
  ⟨"DimpleWellsModel", "givesFrom", "(III)V"⟩,
  ⟨"DimpleWellsModel", "gives", "()V"⟩,
  ⟨"DimpleWellsModel", "best", "()I"⟩,
  ⟨"DimpleWellsModel", "given", "(I)I"⟩,
  ⟨"DimpleWellsModel", "mostOfOne", "(I)I"⟩,
  ⟨"DimpleWellsModel", "enough", "(I)I"⟩,
  ⟨"DimpleWellsModel", "untilNone", "(IIZ)I"⟩,
  ⟨"DimpleWellsModel", "lasts", "(II)I"⟩,
  ⟨"DimpleWellsModel", "well", "(II)I"⟩,
  ⟨"DimpleWellsModel", "isTaste", "(III)Z"⟩,
  ⟨"DimpleWellsModel", "fits", "(II)I"⟩,
  ⟨"DimpleWellsModel", "isTold", "(I)Z"⟩,
  ⟨"DimpleWellsModel", "worstAt", "(II)I"⟩,
  ⟨"DimpleWellsModel", "look", "(II)I"⟩,
  ⟨"DimpleWellsModel", "comfort", "()I"⟩,
  ⟨"DimpleWellsModel", "further", "(I)I"⟩,
  ⟨"DimpleWellsModel", "way", "(II)I"⟩,
  ⟨"DimpleWellsModel", "parts", "()I"⟩,
  ⟨"DimpleWellsModel", "hasBy", "(IIII)I"⟩,
  ⟨"DimpleWellsModel", "isBest", "(IIIII)Z"⟩,
  ⟨"DimpleWellsModel", "comedians", "(IIII)I"⟩,
  ⟨"DimpleWellsModel", "some", "(IIII)J"⟩,
  ⟨"DimpleWellsModel", "givenBy", "(II)I"⟩,
  ⟨"DimpleWellsModel", "share", "(III)I"⟩,
  ⟨"DimpleWellsModel", "likes", "(II)I"⟩,
  ⟨"DimpleWellsModel", "solemn", "(I)I"⟩,
  ⟨"DimpleWellsModel", "driest", "(I)I"⟩,
  ⟨"DimpleWellsModel", "alike", "(I)I"⟩,
  ⟨"DimpleWellsModel", "draw", "(I)I"⟩,
  ⟨"DimpleWellsModel", "yearBy", "(III)V"⟩,
  ⟨"DimpleWellsModel", "isYear", "(II)Z"⟩,
  ⟨"DimpleWellsModel", "year", "(IIII)I"⟩,
  ⟨"DimpleWellsModel", "span", "(IIIIII)I"⟩,
  ⟨"DimpleWellsModel", "puts", "([IIZ)I"⟩,
  ⟨"DimpleWellsModel", "putsAll", "([IZ)V"⟩,
  ⟨"DimpleWellsModel", "image", "()I"⟩,
  ⟨"DimpleWellsModel", "restore", "()I"⟩,
  ⟨"DimpleWellsModel", "status", "(I)I"⟩,
  ⟨"DimpleWellsModel", "count", "(I)I"⟩,
  ⟨"DimpleWellsLaw", "land", "(LDimpleWells;I[J)I"⟩,
  ⟨"DimpleWellsLaw", "law", "(LDimpleWells;I[J)I"⟩,
  ⟨"DimpleWellsLaw", "work", "(LDimpleWells;I[J)I"⟩,
  ⟨"DimpleWellsLaw", "book", "(LDimpleWells;I[J)I"⟩,
  ⟨"DimpleWellsLaw", "told", "(LDimpleWells;I[J)I"⟩,
  ⟨"DimpleWellsLaw", "person", "(LDimpleWells;II[J)I"⟩,
  ⟨"DimpleWellsLaw", "joke", "(LDimpleWells;II[J)I"⟩,
  ⟨"DimpleWellsLaw", "street", "(LDimpleWells;II[J)I"⟩,
  ⟨"DimpleWellsLaw", "worn", "(LDimpleWells;II[J)I"⟩,
  ⟨"DimpleWellsLaw", "laugh", "(LDimpleWells;II[J)I"⟩,
  ⟨"DimpleWellsLaw", "water", "(LDimpleWells;II[J)I"⟩,
  ⟨"DimpleWellsLaw", "would", "(LDimpleWells;IIIIIIIIII[J)I"⟩,
  ⟨"DimpleWellsLaw", "ahead", "(LDimpleWells;II[J)I"⟩,
  ⟨"DimpleWellsLaw", "given", "(LDimpleWells;I[J)I"⟩,
  ⟨"DimpleWellsLaw", "enough", "(LDimpleWells;I[J)I"⟩,
  ⟨"DimpleWellsLaw", "lasts", "(LDimpleWells;II[J)I"⟩,
  ⟨"DimpleWellsLaw", "well", "(LDimpleWells;II[J)I"⟩,
  ⟨"DimpleWellsLaw", "fits", "(LDimpleWells;II[J)I"⟩,
  ⟨"DimpleWellsLaw", "look", "(LDimpleWells;II[J)I"⟩,
  ⟨"DimpleWellsLaw", "way", "(LDimpleWells;II[J)I"⟩,
  ⟨"DimpleWellsLaw", "comedians", "(LDimpleWells;IIII[J)I"⟩,
  ⟨"DimpleWellsLaw", "some", "(LDimpleWells;IIII[J)I"⟩,
  ⟨"DimpleWellsLaw", "share", "(LDimpleWells;III[J)I"⟩,
  ⟨"DimpleWellsLaw", "likes", "(LDimpleWells;II[J)I"⟩,
  ⟨"DimpleWellsLaw", "solemn", "(LDimpleWells;I[J)I"⟩,
  ⟨"DimpleWellsLaw", "driest", "(LDimpleWells;I[J)I"⟩,
  ⟨"DimpleWellsLaw", "alike", "(LDimpleWells;I[J)I"⟩,
  ⟨"DimpleWellsLaw", "year", "(LDimpleWells;IIII[J)I"⟩,
  ⟨"DimpleWellsLaw", "span", "(LDimpleWells;IIIIII[J)I"⟩,
  ⟨"DimpleWellsLaw", "law", "([I)Z"⟩]
def yn (m : Nat) : MethodName := ynms.getD m ⟨"", "", ""⟩
def ybs : List ByteArray := [prog_21_method_59_code, prog_21_method_65_code, prog_21_method_69_code, prog_20_method_49_code, prog_30_method_103_code, prog_32_method_11_code, prog_24_method_2_code, prog_23_method_54_code, prog_23_method_56_code, prog_23_method_152_code, prog_23_method_154_code, prog_23_method_155_code, prog_11_method_1_code, prog_11_method_2_code, prog_11_method_3_code, prog_11_method_4_code, prog_11_method_5_code, prog_11_method_6_code, prog_11_method_7_code, prog_11_method_8_code, prog_11_method_9_code, prog_11_method_10_code, prog_11_method_11_code, prog_11_method_12_code, prog_3_method_1_code, prog_3_method_2_code, prog_3_method_3_code, prog_3_method_4_code, prog_3_method_5_code, prog_3_method_6_code, prog_3_method_7_code, prog_3_method_8_code, prog_3_method_9_code, prog_3_method_10_code, prog_3_method_11_code, prog_3_method_12_code, prog_3_method_13_code, prog_3_method_14_code, prog_3_method_15_code, prog_3_method_16_code, prog_3_method_17_code, prog_3_method_18_code, prog_3_method_19_code, prog_3_method_20_code, prog_3_method_21_code, prog_3_method_22_code, prog_6_method_1_code, prog_6_method_2_code, prog_6_method_3_code, prog_6_method_4_code, prog_6_method_5_code, prog_6_method_6_code, prog_6_method_7_code, prog_6_method_8_code, prog_6_method_9_code, prog_6_method_10_code, prog_6_method_11_code, prog_6_method_12_code, prog_6_method_13_code, prog_7_method_1_code, prog_7_method_2_code, prog_7_method_3_code, prog_7_method_4_code, prog_7_method_5_code, prog_7_method_6_code, prog_7_method_7_code, prog_7_method_8_code, prog_7_method_9_code, prog_7_method_10_code, prog_9_method_1_code, prog_9_method_2_code, prog_9_method_3_code, prog_9_method_4_code, prog_9_method_5_code, prog_9_method_6_code, prog_9_method_7_code, prog_10_method_1_code, prog_10_method_2_code, prog_10_method_3_code, prog_10_method_4_code, prog_10_method_5_code, prog_10_method_6_code, prog_10_method_7_code, prog_10_method_8_code, prog_10_method_9_code, prog_10_method_10_code, prog_2_method_1_code, prog_2_method_2_code, prog_2_method_3_code, prog_2_method_4_code, prog_5_method_1_code, prog_5_method_2_code, prog_5_method_3_code, prog_5_method_4_code, prog_5_method_5_code, prog_5_method_6_code, prog_5_method_7_code, prog_8_method_1_code, prog_8_method_2_code, prog_8_method_3_code, prog_8_method_4_code, prog_8_method_5_code, prog_8_method_6_code, prog_8_method_7_code, prog_4_method_1_code, prog_4_method_2_code, prog_4_method_3_code, prog_4_method_4_code, prog_4_method_5_code, prog_4_method_6_code, prog_12_method_1_code, prog_12_method_2_code, prog_12_method_3_code, prog_12_method_4_code, prog_1_method_1_code, prog_1_method_2_code, prog_1_method_3_code, prog_1_method_4_code, prog_1_method_5_code, prog_1_method_6_code, prog_1_method_7_code, prog_1_method_8_code, prog_1_method_9_code, prog_1_method_10_code, prog_1_method_11_code, prog_1_method_12_code, prog_1_method_13_code, prog_1_method_14_code, prog_1_method_15_code, prog_1_method_16_code, prog_1_method_17_code, prog_1_method_18_code, prog_1_method_19_code, prog_1_method_20_code, prog_1_method_21_code, prog_1_method_22_code, prog_1_method_23_code, prog_1_method_24_code, prog_1_method_25_code, prog_1_method_26_code, prog_1_method_27_code, prog_1_method_28_code, prog_1_method_29_code, prog_1_method_30_code, prog_1_method_31_code, prog_1_method_32_code, prog_1_method_33_code, prog_1_method_34_code, prog_1_method_35_code, prog_1_method_36_code, prog_1_method_37_code, prog_1_method_38_code, prog_1_method_39_code, prog_1_method_40_code, prog_1_method_41_code, prog_1_method_42_code, prog_1_method_43_code, prog_1_method_44_code, prog_1_method_45_code, prog_1_method_46_code, prog_1_method_47_code, prog_1_method_48_code, prog_14_method_1_code, prog_14_method_2_code, prog_14_method_3_code, prog_14_method_4_code, prog_14_method_5_code, prog_14_method_6_code, prog_14_method_7_code, prog_14_method_8_code, prog_14_method_9_code, prog_14_method_10_code, prog_14_method_11_code, prog_14_method_12_code, prog_14_method_13_code, prog_14_method_14_code, prog_14_method_15_code, prog_14_method_16_code, prog_14_method_17_code, prog_14_method_18_code, prog_14_method_19_code, prog_14_method_20_code, prog_14_method_21_code, prog_14_method_22_code, prog_14_method_23_code, prog_14_method_24_code, prog_14_method_25_code, prog_14_method_26_code, prog_14_method_27_code, prog_14_method_28_code, prog_14_method_29_code, prog_14_method_30_code, prog_14_method_31_code, prog_14_method_32_code, prog_14_method_33_code, prog_14_method_34_code, prog_14_method_35_code, prog_14_method_36_code, prog_14_method_37_code, prog_14_method_38_code, prog_14_method_39_code, prog_14_method_40_code, prog_14_method_41_code, prog_14_method_42_code, prog_14_method_43_code, prog_14_method_44_code, prog_14_method_45_code, prog_14_method_46_code, prog_14_method_47_code, prog_14_method_48_code, prog_14_method_49_code, prog_14_method_50_code, prog_14_method_51_code, prog_14_method_52_code, prog_14_method_53_code, prog_14_method_54_code, prog_14_method_55_code, prog_14_method_56_code, prog_14_method_57_code, prog_14_method_58_code, prog_14_method_59_code, prog_14_method_60_code, prog_14_method_61_code, prog_14_method_62_code, prog_14_method_63_code, prog_14_method_64_code, prog_14_method_65_code, prog_14_method_66_code, prog_14_method_67_code, prog_14_method_68_code, prog_14_method_69_code, prog_14_method_70_code, prog_14_method_71_code, prog_14_method_72_code, prog_14_method_73_code, prog_14_method_74_code, prog_14_method_75_code, prog_14_method_76_code, prog_14_method_77_code, prog_14_method_78_code, prog_14_method_79_code, prog_14_method_80_code, prog_14_method_81_code, prog_14_method_82_code, prog_14_method_83_code, prog_14_method_84_code, prog_14_method_85_code, prog_14_method_86_code, prog_14_method_87_code, prog_14_method_88_code, prog_14_method_89_code, prog_14_method_90_code, prog_14_method_91_code, prog_14_method_92_code, prog_14_method_93_code, prog_14_method_94_code, prog_14_method_95_code, prog_14_method_96_code, prog_14_method_97_code, prog_14_method_98_code, prog_14_method_99_code, prog_14_method_100_code, prog_14_method_101_code, prog_14_method_102_code, prog_14_method_103_code, prog_14_method_104_code, prog_14_method_105_code, prog_14_method_106_code, prog_14_method_107_code, prog_14_method_108_code, prog_14_method_109_code, prog_14_method_110_code, prog_14_method_111_code, prog_14_method_112_code, prog_14_method_113_code, prog_14_method_114_code, method_3_code, method_4_code, method_5_code, method_6_code, method_7_code, method_8_code, method_9_code, method_10_code, method_11_code, method_12_code, method_13_code, method_14_code, method_15_code, method_16_code, method_17_code, method_18_code, method_19_code, method_20_code, method_21_code, method_22_code, method_23_code, method_24_code, method_25_code, method_26_code, method_27_code, method_28_code, method_29_code, method_30_code, method_31_code, code]
def yb (m : Nat) : ByteArray := ybs.getD m code
def yrs : List (Option FieldType) := [some .int, some .int, some .int, some .int, none, some .int, some .char, some .int, some .char, some .byte, some .boolean, none, none, some .boolean, none, none, none, none, some .boolean, some .boolean, some .boolean, some .int, some .int, some .boolean, none, none, none, some .int, some .int, some .int, some .boolean, some .int, some .int, some .int, some .int, some .int, some .int, some .int, some .int, some .int, some .int, none, some .boolean, some .boolean, some .boolean, none, none, some .boolean, some .boolean, some .boolean, some .boolean, some .boolean, some .boolean, some .boolean, some .int, some .int, some .int, some .int, some .int, none, none, some .boolean, some .boolean, some .boolean, some .int, some .boolean, some .boolean, some .int, some .int, none, some .int, none, some .int, some .int, some .int, some .int, none, some .boolean, some .boolean, some .boolean, some .boolean, some .boolean, some .boolean, none, none, some .boolean, none, none, some .boolean, some .boolean, none, none, some .boolean, none, some .boolean, some .boolean, some .boolean, none, some .int, some .int, some .int, none, some .int, some .int, none, none, none, some .int, none, some .int, none, none, none, some .int, none, some .int, some .int, some .int, some .int, some .int, some .int, some .int, some .int, some .int, some .int, some .int, some .int, some .int, some .int, some .int, some .int, some .int, some .int, some .int, some .int, some .int, some .int, some .int, some .int, some .int, some .int, some .int, some .long, some .int, some .int, some .int, some .int, some .int, some .int, some .int, some .int, some .int, some .int, some .int, some .int, some .int, none, none, none, some .boolean, some .int, some .long, none, none, some .int, some .boolean, some .boolean, some .int, some .int, some .boolean, some .int, some .int, none, none, some .boolean, some .boolean, some .int, some .int, some .int, some .boolean, none, some .boolean, none, some .boolean, none, some .int, some .boolean, some .int, some .int, some .boolean, none, some .int, none, none, none, none, some .boolean, none, none, some .int, none, some .int, some .int, some .int, some .int, none, some .int, some .int, some .int, some .int, some .int, some .int, some .int, some .int, some .int, some .int, some .boolean, some .boolean, none, some .boolean, none, some .int, some .int, some .int, some .int, some .boolean, some .boolean, some .boolean, some .int, some .int, some .int, some .int, some .int, some .int, some .int, some .int, some .int, none, none, some .int, some .int, some .int, some .int, some .int, some .int, some .int, some .boolean, some .int, some .boolean, some .int, some .int, some .int, some .int, some .int, some .int, some .int, some .boolean, some .int, some .long, some .int, some .int, some .int, some .int, some .int, some .int, some .int, none, some .boolean, some .int, some .int, some .int, none, some .int, some .int, some .int, some .int, some .int, some .int, some .int, some .int, some .int, some .int, some .int, some .int, some .int, some .int, some .int, some .int, some .int, some .int, some .int, some .int, some .int, some .int, some .int, some .int, some .int, some .int, some .int, some .int, some .int, some .int, some .int, some .int, some .int, some .boolean]
def yr (m : Nat) : Option FieldType := yrs.getD m none
def yhs : List (List (Nat × Nat × Nat × Nat)) := [[], [], [], [], [], [], [], [], [], [], [], [], [], [], [], [], [], [], [], [], [], [], [], [], [], [], [], [], [], [], [], [], [], [], [], [], [], [], [], [], [], [], [], [], [], [], [], [], [], [], [], [], [], [], [], [], [], [], [], [], [], [], [], [], [], [], [], [], [], [], [], [], [], [], [], [], [], [], [], [], [], [], [], [], [], [], [], [], [], [], [], [], [], [], [], [], [], [], [], [], [], [], [], [], [], [], [], [], [], [], [], [], [], [], [], [], [], [], [], [], [], [], [], [], [], [], [], [], [], [], [], [], [], [], [], [], [], [], [], [], [], [], [], [], [], [], [], [], [], [], [], [], [], [], [], [], [], [], [], [], [], [], [], [], [], [], [], [], [], [], [], [], [], [], [], [], [], [], [], [], [], [], [], [], [], [], [], [], [], [], [], [], [], [], [], [], [], [], [], [], [], [], [], [], [], [], [], [], [], [], [], [], [], [], [], [], [], [], [], [], [], [], [], [], [], [], [], [], [], [], [], [], [], [], [], [], [], [], [], [], [], [], [], [], [], [], [], [], [], [], [], [], [], [], [], [], [], [], [], [], [], [], [], [], [], [], [], [], [], [], [], [], [], [], [], [], [(0, 9, 12, 13)], [(0, 9, 12, 13)], [(0, 9, 12, 13)], [(0, 9, 12, 13)], [(0, 9, 12, 13)], [(0, 10, 13, 31), (0, 10, 17, 13)], [(0, 10, 13, 31), (0, 10, 17, 13)], [(0, 10, 13, 31), (0, 10, 17, 13)], [(0, 10, 13, 31)], [(0, 10, 13, 31)], [(0, 10, 13, 31)], [(0, 26, 29, 13)], [(0, 10, 13, 13)], [(0, 9, 12, 31)], [(0, 9, 12, 13)], [(0, 10, 13, 31)], [(0, 10, 13, 31)], [(0, 10, 13, 31), (0, 10, 17, 13)], [(0, 10, 13, 31), (0, 10, 17, 13)], [(0, 10, 13, 31)], [(0, 14, 17, 13)], [(0, 13, 16, 13)], [(0, 12, 15, 31), (0, 12, 19, 13)], [(0, 10, 13, 31), (0, 10, 17, 13)], [(0, 9, 12, 31)], [(0, 9, 12, 13)], [(0, 9, 12, 13)], [(0, 14, 17, 13)], [(0, 18, 21, 13)], []]
def yh (m : Nat) : List (Nat × Nat × Nat × Nat) := yhs.getD m []
def mx (m : Nat) : Nat := mmax.getD m 0
def yos : List Nat := [18, 18, 18, 17, 16, 19, 15, 13, 13, 13, 13, 13, 1, 1, 1, 1, 1, 1, 1, 1, 1, 1, 1, 1, 6, 6, 6, 6, 6, 6, 6, 6, 6, 6, 6, 6, 6, 6, 6, 6, 6, 6, 6, 6, 6, 6, 3, 3, 3, 3, 3, 3, 3, 3, 3, 3, 3, 3, 3, 4, 4, 4, 4, 4, 4, 4, 4, 4, 4, 2, 2, 2, 2, 2, 2, 2, 5, 5, 5, 5, 5, 5, 5, 5, 5, 5, 11, 11, 11, 11, 7, 7, 7, 7, 7, 7, 7, 8, 8, 8, 8, 8, 8, 8, 9, 9, 9, 9, 9, 9, 10, 10, 10, 10, 0, 0, 0, 0, 0, 0, 0, 0, 0, 0, 0, 0, 0, 0, 0, 0, 0, 0, 0, 0, 0, 0, 0, 0, 0, 0, 0, 0, 0, 0, 0, 0, 0, 0, 0, 0, 0, 0, 0, 0, 0, 0, 0, 0, 0, 0, 0, 0, 12, 12, 12, 12, 12, 12, 12, 12, 12, 12, 12, 12, 12, 12, 12, 12, 12, 12, 12, 12, 12, 12, 12, 12, 12, 12, 12, 12, 12, 12, 12, 12, 12, 12, 12, 12, 12, 12, 12, 12, 12, 12, 12, 12, 12, 12, 12, 12, 12, 12, 12, 12, 12, 12, 12, 12, 12, 12, 12, 12, 12, 12, 12, 12, 12, 12, 12, 12, 12, 12, 12, 12, 12, 12, 12, 12, 12, 12, 12, 12, 12, 12, 12, 12, 12, 12, 12, 12, 12, 12, 12, 12, 12, 12, 12, 12, 12, 12, 12, 12, 12, 12, 12, 12, 12, 12, 12, 12, 12, 12, 12, 12, 12, 12, 14, 14, 14, 14, 14, 14, 14, 14, 14, 14, 14, 14, 14, 14, 14, 14, 14, 14, 14, 14, 14, 14, 14, 14, 14, 14, 14, 14, 14, 14]
def yo (m : Nat) : Nat := yos.getD m 0
def onms : List String := ["DimpleWells", "DimpleWells$Tape", "DimpleWells$Scene", "DimpleWells$Land", "DimpleWells$Law", "DimpleWells$Steps", "DimpleWells$Days", "DimpleWells$History", "DimpleWells$Plan", "DimpleWells$Guess", "DimpleWells$Years", "DimpleWells$Book", "DimpleWellsModel", "java/lang/String", "DimpleWellsLaw", "java/lang/StringLatin1", "java/util/Arrays", "java/lang/Integer", "java/lang/Math", "jdk/internal/util/Preconditions"]
def onm (o : Nat) : String := onms.getD o ""
/-- how a method is called: 0 virtual, 1 constructor, 2 static -/
def yks : List Nat := [2, 2, 2, 2, 2, 2, 2, 0, 0, 0, 0, 2, 1, 0, 0, 0, 0, 0, 0, 0, 0, 0, 0, 0, 1, 0, 0, 0, 0, 0, 0, 0, 0, 0, 0, 0, 0, 0, 0, 0, 0, 0, 0, 0, 0, 0, 1, 0, 0, 0, 0, 0, 0, 0, 0, 0, 0, 0, 0, 1, 0, 0, 0, 0, 2, 0, 0, 0, 2, 1, 0, 0, 0, 0, 0, 0, 1, 0, 0, 0, 0, 0, 0, 0, 0, 0, 1, 0, 0, 0, 1, 0, 0, 0, 0, 0, 0, 1, 0, 0, 0, 0, 0, 0, 1, 0, 0, 2, 0, 0, 1, 0, 0, 0, 1, 0, 0, 0, 0, 0, 0, 0, 0, 0, 0, 0, 0, 0, 0, 0, 0, 0, 0, 0, 0, 0, 0, 0, 0, 0, 0, 0, 0, 0, 0, 0, 0, 0, 0, 0, 0, 0, 0, 0, 0, 0, 0, 0, 0, 2, 2, 2, 1, 0, 0, 0, 2, 2, 2, 2, 0, 0, 0, 0, 2, 2, 0, 0, 2, 0, 0, 0, 0, 0, 0, 0, 0, 0, 2, 0, 0, 0, 2, 2, 0, 0, 0, 0, 0, 0, 0, 0, 2, 0, 0, 0, 0, 0, 0, 2, 0, 0, 0, 0, 0, 0, 0, 2, 0, 0, 0, 0, 0, 0, 0, 0, 0, 0, 0, 0, 0, 0, 0, 0, 0, 0, 0, 0, 0, 0, 0, 0, 0, 0, 0, 0, 0, 0, 0, 0, 0, 0, 0, 0, 0, 2, 2, 0, 0, 0, 0, 0, 0, 0, 0, 0, 0, 2, 0, 0, 0, 0, 0, 0, 0, 0, 2, 2, 2, 2, 2, 2, 2, 2, 2, 2, 2, 2, 2, 2, 2, 2, 2, 2, 2, 2, 2, 2, 2, 2, 2, 2, 2, 2, 2, 2]
def yk (m : Nat) : Nat := yks.getD m 9
def yps : List Nat := [1, 2, 2, 1, 2, 3, 2, 0, 1, 0, 0, 2, 0, 1, 1, 0, 1, 0, 1, 0, 1, 2, 1, 2, 0, 1, 1, 0, 0, 0, 1, 1, 1, 1, 1, 1, 2, 0, 0, 0, 2, 4, 2, 1, 1, 1, 0, 1, 2, 1, 2, 1, 1, 1, 0, 1, 1, 2, 1, 0, 0, 1, 2, 2, 1, 2, 1, 1, 3, 0, 0, 3, 3, 3, 3, 4, 0, 2, 3, 3, 3, 4, 4, 2, 5, 3, 0, 0, 2, 2, 0, 0, 0, 1, 1, 1, 1, 0, 2, 3, 3, 2, 3, 2, 0, 4, 5, 3, 4, 2, 0, 5, 3, 1, 0, 5, 1, 1, 1, 1, 0, 0, 1, 2, 2, 2, 2, 2, 2, 10, 2, 0, 1, 1, 2, 2, 2, 2, 0, 2, 0, 4, 4, 3, 2, 1, 1, 0, 1, 4, 6, 0, 0, 1, 1, 3, 1, 1, 2, 5, 4, 2, 0, 0, 0, 3, 3, 2, 2, 2, 5, 1, 0, 2, 1, 1, 2, 0, 6, 6, 0, 6, 1, 1, 1, 0, 2, 0, 1, 2, 0, 1, 3, 2, 0, 2, 0, 0, 0, 0, 0, 1, 3, 0, 0, 0, 1, 0, 10, 1, 1, 2, 2, 6, 3, 3, 3, 3, 1, 2, 2, 1, 0, 2, 1, 1, 1, 2, 2, 2, 2, 2, 2, 2, 10, 2, 0, 3, 0, 0, 1, 1, 1, 3, 2, 2, 3, 2, 1, 2, 2, 0, 1, 2, 0, 4, 5, 4, 4, 2, 3, 2, 1, 1, 1, 1, 3, 2, 4, 6, 3, 2, 0, 0, 1, 1, 3, 3, 3, 3, 3, 4, 4, 4, 4, 4, 4, 12, 4, 3, 3, 4, 4, 4, 4, 4, 6, 6, 5, 4, 3, 3, 3, 6, 8, 1]
def yp (m : Nat) : Nat := yps.getD m 0
def codeC (m : Nat) : Cond := match yh m with
  | [] => .code (yn m) (yb m) (mx m) (yr m)
  | q :: t => .codeWith (yn m) (yb m) (mx m) (yr m) (q :: t)
def lwG : List Cond := lw_tbl.filter goodWord
theorem lwG_of {w : Cond} (i : Nat) (h : lw_tbl[i]? = some w) (g : goodWord w = true) : w ∈ lwG := List.mem_filter.mpr ⟨List.mem_of_getElem? h, g⟩
theorem lwG_good {w : Cond} (h : w ∈ lwG) : w ∈ lw_tbl ∧ goodWord w = true := List.mem_filter.mp h
/-- a row of facts by places: f k stands at the k-th place -/
def atP (f : Nat → Cond) : List Nat → Nat → Bool
  | [], _ => true
  | i :: t, k => decide (lw_tbl[i]? = some (f k)) && atP f t (k + 1)
def ycp : List Nat := [614, 661, 658, 633, 502, 884, 876, 859, 869, 863, 873, 879, 188, 573, 577, 835, 831, 840, 941, 990, 937, 924, 855, 907, 391, 515, 705, 644, 1107, 678, 1058, 626, 640, 1151, 1155, 622, 618, 630, 710, 1112, 1116, 1062, 1066, 1070, 1074, 714, 244, 845, 850, 911, 916, 920, 929, 933, 665, 697, 725, 1310, 691, 315, 320, 959, 963, 967, 986, 971, 976, 652, 655, 238, 648, 611, 607, 603, 1054, 1254, 358, 1006, 1010, 1014, 1022, 1026, 1031, 1042, 1046, 1050, 494, 499, 1087, 1091, 402, 947, 1001, 1037, 589, 733, 741, 426, 598, 669, 673, 682, 1237, 1243, 446, 1272, 1276, 1280, 1293, 1297, 476, 1382, 1386, 1390, 180, 569, 757, 954, 997, 1083, 581, 585, 1102, 1124, 1162, 1175, 1183, 1195, 1203, 1211, 1219, 594, 1226, 1233, 1250, 1261, 1268, 1289, 686, 1306, 701, 1317, 1330, 1341, 1350, 1357, 1364, 720, 1371, 1378, 1402, 729, 737, 745, 749, 761, 1128, 1166, 1187, 1320, 1323, 1333, 1408, 1415, 1566, 1581, 1577, 1764, 1735, 1693, 1570, 1593, 1589, 1619, 1633, 1612, 1630, 1609, 1615, 1605, 1626, 1678, 1642, 1686, 1585, 1646, 1682, 1601, 1622, 1638, 1597, 1574, 1422, 1712, 1419, 1670, 1666, 1654, 1658, 1674, 1662, 1650, 1761, 1758, 1709, 1705, 1690, 1697, 1754, 1750, 1743, 1747, 1739, 1732, 1728, 1823, 1724, 1767, 1771, 1720, 1716, 1701, 1775, 1783, 1779, 1791, 1799, 1811, 1787, 1795, 1803, 1807, 1815, 1819, 1827, 1831, 1835, 1847, 1843, 1839, 1851, 1859, 1855, 1867, 1863, 1871, 1879, 1875, 1887, 1891, 1883, 1895, 1903, 1899, 1907, 1917, 1914, 1911, 1921, 1929, 1925, 1933, 1937, 1941, 1945, 1960, 1956, 1952, 1949, 1965, 1977, 1973, 1969, 1981, 1985, 1989, 752, 950, 993, 1079, 1098, 1119, 1158, 1171, 1179, 1191, 1199, 1207, 1215, 1222, 1229, 1246, 1257, 1264, 1285, 1302, 1313, 1326, 1337, 1346, 1353, 1360, 1367, 1374, 1398, 0]
set_option maxRecDepth 100000 in
theorem cp_0 : lw_tbl[614]? = some (codeC 0) := rfl
set_option maxRecDepth 100000 in
theorem cp_1 : lw_tbl[661]? = some (codeC 1) := rfl
set_option maxRecDepth 100000 in
theorem cp_2 : lw_tbl[658]? = some (codeC 2) := rfl
set_option maxRecDepth 100000 in
theorem cp_3 : lw_tbl[633]? = some (codeC 3) := rfl
set_option maxRecDepth 100000 in
theorem cp_4 : lw_tbl[502]? = some (codeC 4) := rfl
set_option maxRecDepth 100000 in
theorem cp_5 : lw_tbl[884]? = some (codeC 5) := rfl
set_option maxRecDepth 100000 in
theorem cp_6 : lw_tbl[876]? = some (codeC 6) := rfl
set_option maxRecDepth 100000 in
theorem cp_7 : lw_tbl[859]? = some (codeC 7) := rfl
set_option maxRecDepth 100000 in
theorem cp_8 : lw_tbl[869]? = some (codeC 8) := rfl
set_option maxRecDepth 100000 in
theorem cp_9 : lw_tbl[863]? = some (codeC 9) := rfl
set_option maxRecDepth 100000 in
theorem cp_10 : lw_tbl[873]? = some (codeC 10) := rfl
set_option maxRecDepth 100000 in
theorem cp_11 : lw_tbl[879]? = some (codeC 11) := rfl
set_option maxRecDepth 100000 in
theorem cp_12 : lw_tbl[188]? = some (codeC 12) := rfl
set_option maxRecDepth 100000 in
theorem cp_13 : lw_tbl[573]? = some (codeC 13) := rfl
set_option maxRecDepth 100000 in
theorem cp_14 : lw_tbl[577]? = some (codeC 14) := rfl
set_option maxRecDepth 100000 in
theorem cp_15 : lw_tbl[835]? = some (codeC 15) := rfl
set_option maxRecDepth 100000 in
theorem cp_16 : lw_tbl[831]? = some (codeC 16) := rfl
set_option maxRecDepth 100000 in
theorem cp_17 : lw_tbl[840]? = some (codeC 17) := rfl
set_option maxRecDepth 100000 in
theorem cp_18 : lw_tbl[941]? = some (codeC 18) := rfl
set_option maxRecDepth 100000 in
theorem cp_19 : lw_tbl[990]? = some (codeC 19) := rfl
set_option maxRecDepth 100000 in
theorem cp_20 : lw_tbl[937]? = some (codeC 20) := rfl
set_option maxRecDepth 100000 in
theorem cp_21 : lw_tbl[924]? = some (codeC 21) := rfl
set_option maxRecDepth 100000 in
theorem cp_22 : lw_tbl[855]? = some (codeC 22) := rfl
set_option maxRecDepth 100000 in
theorem cp_23 : lw_tbl[907]? = some (codeC 23) := rfl
set_option maxRecDepth 100000 in
theorem cp_24 : lw_tbl[391]? = some (codeC 24) := rfl
set_option maxRecDepth 100000 in
theorem cp_25 : lw_tbl[515]? = some (codeC 25) := rfl
set_option maxRecDepth 100000 in
theorem cp_26 : lw_tbl[705]? = some (codeC 26) := rfl
set_option maxRecDepth 100000 in
theorem cp_27 : lw_tbl[644]? = some (codeC 27) := rfl
set_option maxRecDepth 100000 in
theorem cp_28 : lw_tbl[1107]? = some (codeC 28) := rfl
set_option maxRecDepth 100000 in
theorem cp_29 : lw_tbl[678]? = some (codeC 29) := rfl
set_option maxRecDepth 100000 in
theorem cp_30 : lw_tbl[1058]? = some (codeC 30) := rfl
set_option maxRecDepth 100000 in
theorem cp_31 : lw_tbl[626]? = some (codeC 31) := rfl
set_option maxRecDepth 100000 in
theorem cp_32 : lw_tbl[640]? = some (codeC 32) := rfl
set_option maxRecDepth 100000 in
theorem cp_33 : lw_tbl[1151]? = some (codeC 33) := rfl
set_option maxRecDepth 100000 in
theorem cp_34 : lw_tbl[1155]? = some (codeC 34) := rfl
set_option maxRecDepth 100000 in
theorem cp_35 : lw_tbl[622]? = some (codeC 35) := rfl
set_option maxRecDepth 100000 in
theorem cp_36 : lw_tbl[618]? = some (codeC 36) := rfl
set_option maxRecDepth 100000 in
theorem cp_37 : lw_tbl[630]? = some (codeC 37) := rfl
set_option maxRecDepth 100000 in
theorem cp_38 : lw_tbl[710]? = some (codeC 38) := rfl
set_option maxRecDepth 100000 in
theorem cp_39 : lw_tbl[1112]? = some (codeC 39) := rfl
set_option maxRecDepth 100000 in
theorem cp_40 : lw_tbl[1116]? = some (codeC 40) := rfl
set_option maxRecDepth 100000 in
theorem cp_41 : lw_tbl[1062]? = some (codeC 41) := rfl
set_option maxRecDepth 100000 in
theorem cp_42 : lw_tbl[1066]? = some (codeC 42) := rfl
set_option maxRecDepth 100000 in
theorem cp_43 : lw_tbl[1070]? = some (codeC 43) := rfl
set_option maxRecDepth 100000 in
theorem cp_44 : lw_tbl[1074]? = some (codeC 44) := rfl
set_option maxRecDepth 100000 in
theorem cp_45 : lw_tbl[714]? = some (codeC 45) := rfl
set_option maxRecDepth 100000 in
theorem cp_46 : lw_tbl[244]? = some (codeC 46) := rfl
set_option maxRecDepth 100000 in
theorem cp_47 : lw_tbl[845]? = some (codeC 47) := rfl
set_option maxRecDepth 100000 in
theorem cp_48 : lw_tbl[850]? = some (codeC 48) := rfl
set_option maxRecDepth 100000 in
theorem cp_49 : lw_tbl[911]? = some (codeC 49) := rfl
set_option maxRecDepth 100000 in
theorem cp_50 : lw_tbl[916]? = some (codeC 50) := rfl
set_option maxRecDepth 100000 in
theorem cp_51 : lw_tbl[920]? = some (codeC 51) := rfl
set_option maxRecDepth 100000 in
theorem cp_52 : lw_tbl[929]? = some (codeC 52) := rfl
set_option maxRecDepth 100000 in
theorem cp_53 : lw_tbl[933]? = some (codeC 53) := rfl
set_option maxRecDepth 100000 in
theorem cp_54 : lw_tbl[665]? = some (codeC 54) := rfl
set_option maxRecDepth 100000 in
theorem cp_55 : lw_tbl[697]? = some (codeC 55) := rfl
set_option maxRecDepth 100000 in
theorem cp_56 : lw_tbl[725]? = some (codeC 56) := rfl
set_option maxRecDepth 100000 in
theorem cp_57 : lw_tbl[1310]? = some (codeC 57) := rfl
set_option maxRecDepth 100000 in
theorem cp_58 : lw_tbl[691]? = some (codeC 58) := rfl
set_option maxRecDepth 100000 in
theorem cp_59 : lw_tbl[315]? = some (codeC 59) := rfl
set_option maxRecDepth 100000 in
theorem cp_60 : lw_tbl[320]? = some (codeC 60) := rfl
set_option maxRecDepth 100000 in
theorem cp_61 : lw_tbl[959]? = some (codeC 61) := rfl
set_option maxRecDepth 100000 in
theorem cp_62 : lw_tbl[963]? = some (codeC 62) := rfl
set_option maxRecDepth 100000 in
theorem cp_63 : lw_tbl[967]? = some (codeC 63) := rfl
set_option maxRecDepth 100000 in
theorem cp_64 : lw_tbl[986]? = some (codeC 64) := rfl
set_option maxRecDepth 100000 in
theorem cp_65 : lw_tbl[971]? = some (codeC 65) := rfl
set_option maxRecDepth 100000 in
theorem cp_66 : lw_tbl[976]? = some (codeC 66) := rfl
set_option maxRecDepth 100000 in
theorem cp_67 : lw_tbl[652]? = some (codeC 67) := rfl
set_option maxRecDepth 100000 in
theorem cp_68 : lw_tbl[655]? = some (codeC 68) := rfl
set_option maxRecDepth 100000 in
theorem cp_69 : lw_tbl[238]? = some (codeC 69) := rfl
set_option maxRecDepth 100000 in
theorem cp_70 : lw_tbl[648]? = some (codeC 70) := rfl
set_option maxRecDepth 100000 in
theorem cp_71 : lw_tbl[611]? = some (codeC 71) := rfl
set_option maxRecDepth 100000 in
theorem cp_72 : lw_tbl[607]? = some (codeC 72) := rfl
set_option maxRecDepth 100000 in
theorem cp_73 : lw_tbl[603]? = some (codeC 73) := rfl
set_option maxRecDepth 100000 in
theorem cp_74 : lw_tbl[1054]? = some (codeC 74) := rfl
set_option maxRecDepth 100000 in
theorem cp_75 : lw_tbl[1254]? = some (codeC 75) := rfl
set_option maxRecDepth 100000 in
theorem cp_76 : lw_tbl[358]? = some (codeC 76) := rfl
set_option maxRecDepth 100000 in
theorem cp_77 : lw_tbl[1006]? = some (codeC 77) := rfl
set_option maxRecDepth 100000 in
theorem cp_78 : lw_tbl[1010]? = some (codeC 78) := rfl
set_option maxRecDepth 100000 in
theorem cp_79 : lw_tbl[1014]? = some (codeC 79) := rfl
set_option maxRecDepth 100000 in
theorem cp_80 : lw_tbl[1022]? = some (codeC 80) := rfl
set_option maxRecDepth 100000 in
theorem cp_81 : lw_tbl[1026]? = some (codeC 81) := rfl
set_option maxRecDepth 100000 in
theorem cp_82 : lw_tbl[1031]? = some (codeC 82) := rfl
set_option maxRecDepth 100000 in
theorem cp_83 : lw_tbl[1042]? = some (codeC 83) := rfl
set_option maxRecDepth 100000 in
theorem cp_84 : lw_tbl[1046]? = some (codeC 84) := rfl
set_option maxRecDepth 100000 in
theorem cp_85 : lw_tbl[1050]? = some (codeC 85) := rfl
set_option maxRecDepth 100000 in
theorem cp_86 : lw_tbl[494]? = some (codeC 86) := rfl
set_option maxRecDepth 100000 in
theorem cp_87 : lw_tbl[499]? = some (codeC 87) := rfl
set_option maxRecDepth 100000 in
theorem cp_88 : lw_tbl[1087]? = some (codeC 88) := rfl
set_option maxRecDepth 100000 in
theorem cp_89 : lw_tbl[1091]? = some (codeC 89) := rfl
set_option maxRecDepth 100000 in
theorem cp_90 : lw_tbl[402]? = some (codeC 90) := rfl
set_option maxRecDepth 100000 in
theorem cp_91 : lw_tbl[947]? = some (codeC 91) := rfl
set_option maxRecDepth 100000 in
theorem cp_92 : lw_tbl[1001]? = some (codeC 92) := rfl
set_option maxRecDepth 100000 in
theorem cp_93 : lw_tbl[1037]? = some (codeC 93) := rfl
set_option maxRecDepth 100000 in
theorem cp_94 : lw_tbl[589]? = some (codeC 94) := rfl
set_option maxRecDepth 100000 in
theorem cp_95 : lw_tbl[733]? = some (codeC 95) := rfl
set_option maxRecDepth 100000 in
theorem cp_96 : lw_tbl[741]? = some (codeC 96) := rfl
set_option maxRecDepth 100000 in
theorem cp_97 : lw_tbl[426]? = some (codeC 97) := rfl
set_option maxRecDepth 100000 in
theorem cp_98 : lw_tbl[598]? = some (codeC 98) := rfl
set_option maxRecDepth 100000 in
theorem cp_99 : lw_tbl[669]? = some (codeC 99) := rfl
set_option maxRecDepth 100000 in
theorem cp_100 : lw_tbl[673]? = some (codeC 100) := rfl
set_option maxRecDepth 100000 in
theorem cp_101 : lw_tbl[682]? = some (codeC 101) := rfl
set_option maxRecDepth 100000 in
theorem cp_102 : lw_tbl[1237]? = some (codeC 102) := rfl
set_option maxRecDepth 100000 in
theorem cp_103 : lw_tbl[1243]? = some (codeC 103) := rfl
set_option maxRecDepth 100000 in
theorem cp_104 : lw_tbl[446]? = some (codeC 104) := rfl
set_option maxRecDepth 100000 in
theorem cp_105 : lw_tbl[1272]? = some (codeC 105) := rfl
set_option maxRecDepth 100000 in
theorem cp_106 : lw_tbl[1276]? = some (codeC 106) := rfl
set_option maxRecDepth 100000 in
theorem cp_107 : lw_tbl[1280]? = some (codeC 107) := rfl
set_option maxRecDepth 100000 in
theorem cp_108 : lw_tbl[1293]? = some (codeC 108) := rfl
set_option maxRecDepth 100000 in
theorem cp_109 : lw_tbl[1297]? = some (codeC 109) := rfl
set_option maxRecDepth 100000 in
theorem cp_110 : lw_tbl[476]? = some (codeC 110) := rfl
set_option maxRecDepth 100000 in
theorem cp_111 : lw_tbl[1382]? = some (codeC 111) := rfl
set_option maxRecDepth 100000 in
theorem cp_112 : lw_tbl[1386]? = some (codeC 112) := rfl
set_option maxRecDepth 100000 in
theorem cp_113 : lw_tbl[1390]? = some (codeC 113) := rfl
set_option maxRecDepth 100000 in
theorem cp_114 : lw_tbl[180]? = some (codeC 114) := rfl
set_option maxRecDepth 100000 in
theorem cp_115 : lw_tbl[569]? = some (codeC 115) := rfl
set_option maxRecDepth 100000 in
theorem cp_116 : lw_tbl[757]? = some (codeC 116) := rfl
set_option maxRecDepth 100000 in
theorem cp_117 : lw_tbl[954]? = some (codeC 117) := rfl
set_option maxRecDepth 100000 in
theorem cp_118 : lw_tbl[997]? = some (codeC 118) := rfl
set_option maxRecDepth 100000 in
theorem cp_119 : lw_tbl[1083]? = some (codeC 119) := rfl
set_option maxRecDepth 100000 in
theorem cp_120 : lw_tbl[581]? = some (codeC 120) := rfl
set_option maxRecDepth 100000 in
theorem cp_121 : lw_tbl[585]? = some (codeC 121) := rfl
set_option maxRecDepth 100000 in
theorem cp_122 : lw_tbl[1102]? = some (codeC 122) := rfl
set_option maxRecDepth 100000 in
theorem cp_123 : lw_tbl[1124]? = some (codeC 123) := rfl
set_option maxRecDepth 100000 in
theorem cp_124 : lw_tbl[1162]? = some (codeC 124) := rfl
set_option maxRecDepth 100000 in
theorem cp_125 : lw_tbl[1175]? = some (codeC 125) := rfl
set_option maxRecDepth 100000 in
theorem cp_126 : lw_tbl[1183]? = some (codeC 126) := rfl
set_option maxRecDepth 100000 in
theorem cp_127 : lw_tbl[1195]? = some (codeC 127) := rfl
set_option maxRecDepth 100000 in
theorem cp_128 : lw_tbl[1203]? = some (codeC 128) := rfl
set_option maxRecDepth 100000 in
theorem cp_129 : lw_tbl[1211]? = some (codeC 129) := rfl
set_option maxRecDepth 100000 in
theorem cp_130 : lw_tbl[1219]? = some (codeC 130) := rfl
set_option maxRecDepth 100000 in
theorem cp_131 : lw_tbl[594]? = some (codeC 131) := rfl
set_option maxRecDepth 100000 in
theorem cp_132 : lw_tbl[1226]? = some (codeC 132) := rfl
set_option maxRecDepth 100000 in
theorem cp_133 : lw_tbl[1233]? = some (codeC 133) := rfl
set_option maxRecDepth 100000 in
theorem cp_134 : lw_tbl[1250]? = some (codeC 134) := rfl
set_option maxRecDepth 100000 in
theorem cp_135 : lw_tbl[1261]? = some (codeC 135) := rfl
set_option maxRecDepth 100000 in
theorem cp_136 : lw_tbl[1268]? = some (codeC 136) := rfl
set_option maxRecDepth 100000 in
theorem cp_137 : lw_tbl[1289]? = some (codeC 137) := rfl
set_option maxRecDepth 100000 in
theorem cp_138 : lw_tbl[686]? = some (codeC 138) := rfl
set_option maxRecDepth 100000 in
theorem cp_139 : lw_tbl[1306]? = some (codeC 139) := rfl
set_option maxRecDepth 100000 in
theorem cp_140 : lw_tbl[701]? = some (codeC 140) := rfl
set_option maxRecDepth 100000 in
theorem cp_141 : lw_tbl[1317]? = some (codeC 141) := rfl
set_option maxRecDepth 100000 in
theorem cp_142 : lw_tbl[1330]? = some (codeC 142) := rfl
set_option maxRecDepth 100000 in
theorem cp_143 : lw_tbl[1341]? = some (codeC 143) := rfl
set_option maxRecDepth 100000 in
theorem cp_144 : lw_tbl[1350]? = some (codeC 144) := rfl
set_option maxRecDepth 100000 in
theorem cp_145 : lw_tbl[1357]? = some (codeC 145) := rfl
set_option maxRecDepth 100000 in
theorem cp_146 : lw_tbl[1364]? = some (codeC 146) := rfl
set_option maxRecDepth 100000 in
theorem cp_147 : lw_tbl[720]? = some (codeC 147) := rfl
set_option maxRecDepth 100000 in
theorem cp_148 : lw_tbl[1371]? = some (codeC 148) := rfl
set_option maxRecDepth 100000 in
theorem cp_149 : lw_tbl[1378]? = some (codeC 149) := rfl
set_option maxRecDepth 100000 in
theorem cp_150 : lw_tbl[1402]? = some (codeC 150) := rfl
set_option maxRecDepth 100000 in
theorem cp_151 : lw_tbl[729]? = some (codeC 151) := rfl
set_option maxRecDepth 100000 in
theorem cp_152 : lw_tbl[737]? = some (codeC 152) := rfl
set_option maxRecDepth 100000 in
theorem cp_153 : lw_tbl[745]? = some (codeC 153) := rfl
set_option maxRecDepth 100000 in
theorem cp_154 : lw_tbl[749]? = some (codeC 154) := rfl
set_option maxRecDepth 100000 in
theorem cp_155 : lw_tbl[761]? = some (codeC 155) := rfl
set_option maxRecDepth 100000 in
theorem cp_156 : lw_tbl[1128]? = some (codeC 156) := rfl
set_option maxRecDepth 100000 in
theorem cp_157 : lw_tbl[1166]? = some (codeC 157) := rfl
set_option maxRecDepth 100000 in
theorem cp_158 : lw_tbl[1187]? = some (codeC 158) := rfl
set_option maxRecDepth 100000 in
theorem cp_159 : lw_tbl[1320]? = some (codeC 159) := rfl
set_option maxRecDepth 100000 in
theorem cp_160 : lw_tbl[1323]? = some (codeC 160) := rfl
set_option maxRecDepth 100000 in
theorem cp_161 : lw_tbl[1333]? = some (codeC 161) := rfl
set_option maxRecDepth 100000 in
theorem cp_162 : lw_tbl[1408]? = some (codeC 162) := rfl
set_option maxRecDepth 100000 in
theorem cp_163 : lw_tbl[1415]? = some (codeC 163) := rfl
set_option maxRecDepth 100000 in
theorem cp_164 : lw_tbl[1566]? = some (codeC 164) := rfl
set_option maxRecDepth 100000 in
theorem cp_165 : lw_tbl[1581]? = some (codeC 165) := rfl
set_option maxRecDepth 100000 in
theorem cp_166 : lw_tbl[1577]? = some (codeC 166) := rfl
set_option maxRecDepth 100000 in
theorem cp_167 : lw_tbl[1764]? = some (codeC 167) := rfl
set_option maxRecDepth 100000 in
theorem cp_168 : lw_tbl[1735]? = some (codeC 168) := rfl
set_option maxRecDepth 100000 in
theorem cp_169 : lw_tbl[1693]? = some (codeC 169) := rfl
set_option maxRecDepth 100000 in
theorem cp_170 : lw_tbl[1570]? = some (codeC 170) := rfl
set_option maxRecDepth 100000 in
theorem cp_171 : lw_tbl[1593]? = some (codeC 171) := rfl
set_option maxRecDepth 100000 in
theorem cp_172 : lw_tbl[1589]? = some (codeC 172) := rfl
set_option maxRecDepth 100000 in
theorem cp_173 : lw_tbl[1619]? = some (codeC 173) := rfl
set_option maxRecDepth 100000 in
theorem cp_174 : lw_tbl[1633]? = some (codeC 174) := rfl
set_option maxRecDepth 100000 in
theorem cp_175 : lw_tbl[1612]? = some (codeC 175) := rfl
set_option maxRecDepth 100000 in
theorem cp_176 : lw_tbl[1630]? = some (codeC 176) := rfl
set_option maxRecDepth 100000 in
theorem cp_177 : lw_tbl[1609]? = some (codeC 177) := rfl
set_option maxRecDepth 100000 in
theorem cp_178 : lw_tbl[1615]? = some (codeC 178) := rfl
set_option maxRecDepth 100000 in
theorem cp_179 : lw_tbl[1605]? = some (codeC 179) := rfl
set_option maxRecDepth 100000 in
theorem cp_180 : lw_tbl[1626]? = some (codeC 180) := rfl
set_option maxRecDepth 100000 in
theorem cp_181 : lw_tbl[1678]? = some (codeC 181) := rfl
set_option maxRecDepth 100000 in
theorem cp_182 : lw_tbl[1642]? = some (codeC 182) := rfl
set_option maxRecDepth 100000 in
theorem cp_183 : lw_tbl[1686]? = some (codeC 183) := rfl
set_option maxRecDepth 100000 in
theorem cp_184 : lw_tbl[1585]? = some (codeC 184) := rfl
set_option maxRecDepth 100000 in
theorem cp_185 : lw_tbl[1646]? = some (codeC 185) := rfl
set_option maxRecDepth 100000 in
theorem cp_186 : lw_tbl[1682]? = some (codeC 186) := rfl
set_option maxRecDepth 100000 in
theorem cp_187 : lw_tbl[1601]? = some (codeC 187) := rfl
set_option maxRecDepth 100000 in
theorem cp_188 : lw_tbl[1622]? = some (codeC 188) := rfl
set_option maxRecDepth 100000 in
theorem cp_189 : lw_tbl[1638]? = some (codeC 189) := rfl
set_option maxRecDepth 100000 in
theorem cp_190 : lw_tbl[1597]? = some (codeC 190) := rfl
set_option maxRecDepth 100000 in
theorem cp_191 : lw_tbl[1574]? = some (codeC 191) := rfl
set_option maxRecDepth 100000 in
theorem cp_192 : lw_tbl[1422]? = some (codeC 192) := rfl
set_option maxRecDepth 100000 in
theorem cp_193 : lw_tbl[1712]? = some (codeC 193) := rfl
set_option maxRecDepth 100000 in
theorem cp_194 : lw_tbl[1419]? = some (codeC 194) := rfl
set_option maxRecDepth 100000 in
theorem cp_195 : lw_tbl[1670]? = some (codeC 195) := rfl
set_option maxRecDepth 100000 in
theorem cp_196 : lw_tbl[1666]? = some (codeC 196) := rfl
set_option maxRecDepth 100000 in
theorem cp_197 : lw_tbl[1654]? = some (codeC 197) := rfl
set_option maxRecDepth 100000 in
theorem cp_198 : lw_tbl[1658]? = some (codeC 198) := rfl
set_option maxRecDepth 100000 in
theorem cp_199 : lw_tbl[1674]? = some (codeC 199) := rfl
set_option maxRecDepth 100000 in
theorem cp_200 : lw_tbl[1662]? = some (codeC 200) := rfl
set_option maxRecDepth 100000 in
theorem cp_201 : lw_tbl[1650]? = some (codeC 201) := rfl
set_option maxRecDepth 100000 in
theorem cp_202 : lw_tbl[1761]? = some (codeC 202) := rfl
set_option maxRecDepth 100000 in
theorem cp_203 : lw_tbl[1758]? = some (codeC 203) := rfl
set_option maxRecDepth 100000 in
theorem cp_204 : lw_tbl[1709]? = some (codeC 204) := rfl
set_option maxRecDepth 100000 in
theorem cp_205 : lw_tbl[1705]? = some (codeC 205) := rfl
set_option maxRecDepth 100000 in
theorem cp_206 : lw_tbl[1690]? = some (codeC 206) := rfl
set_option maxRecDepth 100000 in
theorem cp_207 : lw_tbl[1697]? = some (codeC 207) := rfl
set_option maxRecDepth 100000 in
theorem cp_208 : lw_tbl[1754]? = some (codeC 208) := rfl
set_option maxRecDepth 100000 in
theorem cp_209 : lw_tbl[1750]? = some (codeC 209) := rfl
set_option maxRecDepth 100000 in
theorem cp_210 : lw_tbl[1743]? = some (codeC 210) := rfl
set_option maxRecDepth 100000 in
theorem cp_211 : lw_tbl[1747]? = some (codeC 211) := rfl
set_option maxRecDepth 100000 in
theorem cp_212 : lw_tbl[1739]? = some (codeC 212) := rfl
set_option maxRecDepth 100000 in
theorem cp_213 : lw_tbl[1732]? = some (codeC 213) := rfl
set_option maxRecDepth 100000 in
theorem cp_214 : lw_tbl[1728]? = some (codeC 214) := rfl
set_option maxRecDepth 100000 in
theorem cp_215 : lw_tbl[1823]? = some (codeC 215) := rfl
set_option maxRecDepth 100000 in
theorem cp_216 : lw_tbl[1724]? = some (codeC 216) := rfl
set_option maxRecDepth 100000 in
theorem cp_217 : lw_tbl[1767]? = some (codeC 217) := rfl
set_option maxRecDepth 100000 in
theorem cp_218 : lw_tbl[1771]? = some (codeC 218) := rfl
set_option maxRecDepth 100000 in
theorem cp_219 : lw_tbl[1720]? = some (codeC 219) := rfl
set_option maxRecDepth 100000 in
theorem cp_220 : lw_tbl[1716]? = some (codeC 220) := rfl
set_option maxRecDepth 100000 in
theorem cp_221 : lw_tbl[1701]? = some (codeC 221) := rfl
set_option maxRecDepth 100000 in
theorem cp_222 : lw_tbl[1775]? = some (codeC 222) := rfl
set_option maxRecDepth 100000 in
theorem cp_223 : lw_tbl[1783]? = some (codeC 223) := rfl
set_option maxRecDepth 100000 in
theorem cp_224 : lw_tbl[1779]? = some (codeC 224) := rfl
set_option maxRecDepth 100000 in
theorem cp_225 : lw_tbl[1791]? = some (codeC 225) := rfl
set_option maxRecDepth 100000 in
theorem cp_226 : lw_tbl[1799]? = some (codeC 226) := rfl
set_option maxRecDepth 100000 in
theorem cp_227 : lw_tbl[1811]? = some (codeC 227) := rfl
set_option maxRecDepth 100000 in
theorem cp_228 : lw_tbl[1787]? = some (codeC 228) := rfl
set_option maxRecDepth 100000 in
theorem cp_229 : lw_tbl[1795]? = some (codeC 229) := rfl
set_option maxRecDepth 100000 in
theorem cp_230 : lw_tbl[1803]? = some (codeC 230) := rfl
set_option maxRecDepth 100000 in
theorem cp_231 : lw_tbl[1807]? = some (codeC 231) := rfl
set_option maxRecDepth 100000 in
theorem cp_232 : lw_tbl[1815]? = some (codeC 232) := rfl
set_option maxRecDepth 100000 in
theorem cp_233 : lw_tbl[1819]? = some (codeC 233) := rfl
set_option maxRecDepth 100000 in
theorem cp_234 : lw_tbl[1827]? = some (codeC 234) := rfl
set_option maxRecDepth 100000 in
theorem cp_235 : lw_tbl[1831]? = some (codeC 235) := rfl
set_option maxRecDepth 100000 in
theorem cp_236 : lw_tbl[1835]? = some (codeC 236) := rfl
set_option maxRecDepth 100000 in
theorem cp_237 : lw_tbl[1847]? = some (codeC 237) := rfl
set_option maxRecDepth 100000 in
theorem cp_238 : lw_tbl[1843]? = some (codeC 238) := rfl
set_option maxRecDepth 100000 in
theorem cp_239 : lw_tbl[1839]? = some (codeC 239) := rfl
set_option maxRecDepth 100000 in
theorem cp_240 : lw_tbl[1851]? = some (codeC 240) := rfl
set_option maxRecDepth 100000 in
theorem cp_241 : lw_tbl[1859]? = some (codeC 241) := rfl
set_option maxRecDepth 100000 in
theorem cp_242 : lw_tbl[1855]? = some (codeC 242) := rfl
set_option maxRecDepth 100000 in
theorem cp_243 : lw_tbl[1867]? = some (codeC 243) := rfl
set_option maxRecDepth 100000 in
theorem cp_244 : lw_tbl[1863]? = some (codeC 244) := rfl
set_option maxRecDepth 100000 in
theorem cp_245 : lw_tbl[1871]? = some (codeC 245) := rfl
set_option maxRecDepth 100000 in
theorem cp_246 : lw_tbl[1879]? = some (codeC 246) := rfl
set_option maxRecDepth 100000 in
theorem cp_247 : lw_tbl[1875]? = some (codeC 247) := rfl
set_option maxRecDepth 100000 in
theorem cp_248 : lw_tbl[1887]? = some (codeC 248) := rfl
set_option maxRecDepth 100000 in
theorem cp_249 : lw_tbl[1891]? = some (codeC 249) := rfl
set_option maxRecDepth 100000 in
theorem cp_250 : lw_tbl[1883]? = some (codeC 250) := rfl
set_option maxRecDepth 100000 in
theorem cp_251 : lw_tbl[1895]? = some (codeC 251) := rfl
set_option maxRecDepth 100000 in
theorem cp_252 : lw_tbl[1903]? = some (codeC 252) := rfl
set_option maxRecDepth 100000 in
theorem cp_253 : lw_tbl[1899]? = some (codeC 253) := rfl
set_option maxRecDepth 100000 in
theorem cp_254 : lw_tbl[1907]? = some (codeC 254) := rfl
set_option maxRecDepth 100000 in
theorem cp_255 : lw_tbl[1917]? = some (codeC 255) := rfl
set_option maxRecDepth 100000 in
theorem cp_256 : lw_tbl[1914]? = some (codeC 256) := rfl
set_option maxRecDepth 100000 in
theorem cp_257 : lw_tbl[1911]? = some (codeC 257) := rfl
set_option maxRecDepth 100000 in
theorem cp_258 : lw_tbl[1921]? = some (codeC 258) := rfl
set_option maxRecDepth 100000 in
theorem cp_259 : lw_tbl[1929]? = some (codeC 259) := rfl
set_option maxRecDepth 100000 in
theorem cp_260 : lw_tbl[1925]? = some (codeC 260) := rfl
set_option maxRecDepth 100000 in
theorem cp_261 : lw_tbl[1933]? = some (codeC 261) := rfl
set_option maxRecDepth 100000 in
theorem cp_262 : lw_tbl[1937]? = some (codeC 262) := rfl
set_option maxRecDepth 100000 in
theorem cp_263 : lw_tbl[1941]? = some (codeC 263) := rfl
set_option maxRecDepth 100000 in
theorem cp_264 : lw_tbl[1945]? = some (codeC 264) := rfl
set_option maxRecDepth 100000 in
theorem cp_265 : lw_tbl[1960]? = some (codeC 265) := rfl
set_option maxRecDepth 100000 in
theorem cp_266 : lw_tbl[1956]? = some (codeC 266) := rfl
set_option maxRecDepth 100000 in
theorem cp_267 : lw_tbl[1952]? = some (codeC 267) := rfl
set_option maxRecDepth 100000 in
theorem cp_268 : lw_tbl[1949]? = some (codeC 268) := rfl
set_option maxRecDepth 100000 in
theorem cp_269 : lw_tbl[1965]? = some (codeC 269) := rfl
set_option maxRecDepth 100000 in
theorem cp_270 : lw_tbl[1977]? = some (codeC 270) := rfl
set_option maxRecDepth 100000 in
theorem cp_271 : lw_tbl[1973]? = some (codeC 271) := rfl
set_option maxRecDepth 100000 in
theorem cp_272 : lw_tbl[1969]? = some (codeC 272) := rfl
set_option maxRecDepth 100000 in
theorem cp_273 : lw_tbl[1981]? = some (codeC 273) := rfl
set_option maxRecDepth 100000 in
theorem cp_274 : lw_tbl[1985]? = some (codeC 274) := rfl
set_option maxRecDepth 100000 in
theorem cp_275 : lw_tbl[1989]? = some (codeC 275) := rfl
set_option maxRecDepth 100000 in
theorem cp_276 : lw_tbl[752]? = some (codeC 276) := rfl
set_option maxRecDepth 100000 in
theorem cp_277 : lw_tbl[950]? = some (codeC 277) := rfl
set_option maxRecDepth 100000 in
theorem cp_278 : lw_tbl[993]? = some (codeC 278) := rfl
set_option maxRecDepth 100000 in
theorem cp_279 : lw_tbl[1079]? = some (codeC 279) := rfl
set_option maxRecDepth 100000 in
theorem cp_280 : lw_tbl[1098]? = some (codeC 280) := rfl
set_option maxRecDepth 100000 in
theorem cp_281 : lw_tbl[1119]? = some (codeC 281) := rfl
set_option maxRecDepth 100000 in
theorem cp_282 : lw_tbl[1158]? = some (codeC 282) := rfl
set_option maxRecDepth 100000 in
theorem cp_283 : lw_tbl[1171]? = some (codeC 283) := rfl
set_option maxRecDepth 100000 in
theorem cp_284 : lw_tbl[1179]? = some (codeC 284) := rfl
set_option maxRecDepth 100000 in
theorem cp_285 : lw_tbl[1191]? = some (codeC 285) := rfl
set_option maxRecDepth 100000 in
theorem cp_286 : lw_tbl[1199]? = some (codeC 286) := rfl
set_option maxRecDepth 100000 in
theorem cp_287 : lw_tbl[1207]? = some (codeC 287) := rfl
set_option maxRecDepth 100000 in
theorem cp_288 : lw_tbl[1215]? = some (codeC 288) := rfl
set_option maxRecDepth 100000 in
theorem cp_289 : lw_tbl[1222]? = some (codeC 289) := rfl
set_option maxRecDepth 100000 in
theorem cp_290 : lw_tbl[1229]? = some (codeC 290) := rfl
set_option maxRecDepth 100000 in
theorem cp_291 : lw_tbl[1246]? = some (codeC 291) := rfl
set_option maxRecDepth 100000 in
theorem cp_292 : lw_tbl[1257]? = some (codeC 292) := rfl
set_option maxRecDepth 100000 in
theorem cp_293 : lw_tbl[1264]? = some (codeC 293) := rfl
set_option maxRecDepth 100000 in
theorem cp_294 : lw_tbl[1285]? = some (codeC 294) := rfl
set_option maxRecDepth 100000 in
theorem cp_295 : lw_tbl[1302]? = some (codeC 295) := rfl
set_option maxRecDepth 100000 in
theorem cp_296 : lw_tbl[1313]? = some (codeC 296) := rfl
set_option maxRecDepth 100000 in
theorem cp_297 : lw_tbl[1326]? = some (codeC 297) := rfl
set_option maxRecDepth 100000 in
theorem cp_298 : lw_tbl[1337]? = some (codeC 298) := rfl
set_option maxRecDepth 100000 in
theorem cp_299 : lw_tbl[1346]? = some (codeC 299) := rfl
set_option maxRecDepth 100000 in
theorem cp_300 : lw_tbl[1353]? = some (codeC 300) := rfl
set_option maxRecDepth 100000 in
theorem cp_301 : lw_tbl[1360]? = some (codeC 301) := rfl
set_option maxRecDepth 100000 in
theorem cp_302 : lw_tbl[1367]? = some (codeC 302) := rfl
set_option maxRecDepth 100000 in
theorem cp_303 : lw_tbl[1374]? = some (codeC 303) := rfl
set_option maxRecDepth 100000 in
theorem cp_304 : lw_tbl[1398]? = some (codeC 304) := rfl
def yl_st : List (Nat × Nat) := [(0, 613), (1, 660), (2, 657), (3, 632), (4, 501), (5, 883), (6, 875), (11, 878), (64, 985), (68, 654), (107, 1279), (159, 1319), (160, 1322), (161, 1332), (166, 1576), (167, 1763), (168, 1734), (169, 1692), (174, 1632), (175, 1611), (178, 1614), (188, 1621), (192, 1421), (193, 1711), (202, 1760), (209, 1749), (217, 1766), (255, 1916), (256, 1913), (267, 1951), (276, 751), (277, 949), (278, 992), (279, 1078), (280, 1097), (281, 1118), (282, 1157), (283, 1170), (284, 1178), (285, 1190), (286, 1198), (287, 1206), (288, 1214), (289, 1221), (290, 1228), (291, 1245), (292, 1256), (293, 1263), (294, 1284), (295, 1301), (296, 1312), (297, 1325), (298, 1336), (299, 1345), (300, 1352), (301, 1359), (302, 1366), (303, 1373), (304, 1397)]
def yl_in : List (Nat × Nat) := [(7, 857), (8, 867), (9, 861), (10, 871), (12, 187), (13, 572), (14, 576), (15, 834), (16, 830), (17, 839), (18, 940), (19, 989), (20, 936), (21, 923), (22, 854), (23, 906), (24, 390), (25, 514), (26, 704), (27, 643), (28, 1106), (29, 677), (30, 1057), (31, 625), (32, 639), (33, 1150), (34, 1154), (35, 621), (36, 617), (37, 629), (38, 709), (39, 1111), (40, 1115), (41, 1061), (42, 1065), (43, 1069), (44, 1073), (45, 713), (46, 243), (47, 844), (48, 849), (49, 910), (50, 915), (51, 919), (52, 928), (53, 932), (54, 664), (55, 696), (56, 724), (57, 1309), (58, 690), (59, 314), (60, 319), (61, 958), (62, 962), (63, 966), (65, 970), (66, 975), (67, 651), (69, 237), (70, 647), (71, 610), (72, 606), (73, 602), (74, 1053), (75, 1253), (76, 357), (77, 1005), (78, 1009), (79, 1013), (80, 1021), (81, 1025), (82, 1030), (83, 1041), (84, 1045), (85, 1049), (86, 493), (87, 498), (88, 1086), (89, 1090), (90, 401), (91, 946), (92, 1000), (93, 1036), (94, 588), (95, 732), (96, 740), (97, 425), (98, 597), (99, 668), (100, 672), (101, 681), (102, 1236), (103, 1242), (104, 445), (105, 1271), (106, 1275), (108, 1292), (109, 1296), (110, 475), (111, 1381), (112, 1385), (113, 1389), (114, 179), (115, 567), (116, 755), (117, 952), (118, 995), (119, 1081), (120, 579), (121, 583), (122, 1100), (123, 1122), (124, 1160), (125, 1173), (126, 1181), (127, 1193), (128, 1201), (129, 1209), (130, 1217), (131, 592), (132, 1224), (133, 1231), (134, 1248), (135, 1259), (136, 1266), (137, 1287), (138, 684), (139, 1304), (140, 699), (141, 1315), (142, 1328), (143, 1339), (144, 1348), (145, 1355), (146, 1362), (147, 718), (148, 1369), (149, 1376), (150, 1400), (151, 727), (152, 735), (153, 743), (154, 747), (155, 760), (156, 1127), (157, 1165), (158, 1186), (162, 1407), (163, 1414), (164, 1564), (165, 1580), (170, 1568), (171, 1592), (172, 1588), (173, 1618), (176, 1629), (177, 1608), (179, 1604), (180, 1625), (181, 1677), (182, 1641), (183, 1685), (184, 1584), (185, 1645), (186, 1681), (187, 1600), (189, 1637), (190, 1596), (191, 1572), (194, 1418), (195, 1669), (196, 1665), (197, 1653), (198, 1657), (199, 1673), (200, 1661), (201, 1648), (203, 1757), (204, 1708), (205, 1704), (206, 1688), (207, 1695), (208, 1753), (210, 1742), (211, 1746), (212, 1738), (213, 1731), (214, 1727), (215, 1822), (216, 1723), (218, 1770), (219, 1719), (220, 1715), (221, 1699), (222, 1773), (223, 1782), (224, 1777), (225, 1790), (226, 1798), (227, 1810), (228, 1785), (229, 1793), (230, 1801), (231, 1805), (232, 1813), (233, 1817), (234, 1825), (235, 1829), (236, 1833), (237, 1846), (238, 1842), (239, 1837), (240, 1849), (241, 1858), (242, 1853), (243, 1866), (244, 1861), (245, 1869), (246, 1878), (247, 1873), (248, 1886), (249, 1890), (250, 1881), (251, 1893), (252, 1902), (253, 1897), (254, 1905), (257, 1909), (258, 1919), (259, 1928), (260, 1923), (261, 1931), (262, 1935), (263, 1939), (264, 1943), (265, 1959), (266, 1955), (268, 1947), (269, 1963), (270, 1976), (271, 1972), (272, 1967), (273, 1979), (274, 1983), (275, 1987)]
def yl_se : List (Nat × Nat) := [(7, 858), (8, 868), (9, 862), (10, 872), (13, 3), (14, 4), (15, 34), (16, 33), (17, 35), (18, 47), (19, 54), (20, 46), (21, 43), (22, 38), (23, 39), (25, 2), (26, 25), (27, 15), (28, 74), (29, 21), (30, 67), (31, 12), (32, 14), (33, 78), (34, 79), (35, 11), (36, 10), (37, 13), (38, 26), (39, 75), (40, 76), (41, 68), (42, 69), (43, 70), (44, 71), (45, 27), (47, 36), (48, 37), (49, 40), (50, 41), (51, 42), (52, 44), (53, 45), (54, 18), (55, 24), (56, 28), (57, 89), (58, 23), (60, 0), (61, 49), (62, 50), (63, 51), (65, 52), (66, 53), (67, 17), (70, 16), (71, 9), (72, 8), (73, 7), (74, 66), (75, 84), (77, 56), (78, 57), (79, 58), (80, 59), (81, 60), (82, 61), (83, 63), (84, 64), (85, 65), (87, 1), (88, 72), (89, 73), (91, 48), (92, 55), (93, 62), (94, 5), (95, 29), (96, 30), (98, 6), (99, 19), (100, 20), (101, 22), (102, 82), (103, 83), (105, 85), (106, 86), (108, 87), (109, 88), (111, 90), (112, 91), (113, 92), (115, 568), (116, 756), (117, 953), (118, 996), (119, 1082), (120, 580), (121, 584), (122, 1101), (123, 1123), (124, 1161), (125, 1174), (126, 1182), (127, 1194), (128, 1202), (129, 1210), (130, 1218), (131, 593), (132, 1225), (133, 1232), (134, 1249), (135, 1260), (136, 1267), (137, 1288), (138, 685), (139, 1305), (140, 700), (141, 1316), (142, 1329), (143, 1340), (144, 1349), (145, 1356), (146, 1363), (147, 719), (148, 1370), (149, 1377), (150, 1401), (151, 728), (152, 736), (153, 744), (154, 748), (155, 31), (156, 77), (157, 80), (158, 81), (163, 93), (164, 1565), (165, 95), (170, 1569), (171, 98), (172, 97), (173, 103), (176, 105), (177, 102), (179, 101), (180, 104), (181, 115), (182, 107), (183, 117), (184, 96), (185, 108), (186, 116), (187, 100), (189, 106), (190, 99), (191, 1573), (194, 94), (195, 113), (196, 112), (197, 109), (198, 110), (199, 114), (200, 111), (201, 1649), (203, 129), (204, 119), (205, 118), (206, 1689), (207, 1696), (208, 128), (210, 126), (211, 127), (212, 125), (213, 124), (214, 123), (215, 135), (216, 122), (218, 130), (219, 121), (220, 120), (221, 1700), (222, 1774), (223, 131), (224, 1778), (225, 132), (226, 133), (227, 134), (228, 1786), (229, 1794), (230, 1802), (231, 1806), (232, 1814), (233, 1818), (234, 1826), (235, 1830), (236, 1834), (237, 137), (238, 136), (239, 1838), (240, 1850), (241, 138), (242, 1854), (243, 139), (244, 1862), (245, 1870), (246, 140), (247, 1874), (248, 141), (249, 142), (250, 1882), (251, 1894), (252, 143), (253, 1898), (254, 1906), (257, 1910), (258, 1920), (259, 144), (260, 1924), (261, 1932), (262, 1936), (263, 1940), (264, 1944), (265, 146), (266, 145), (268, 1948), (269, 1964), (270, 148), (271, 147), (272, 1968), (273, 1980), (274, 1984), (275, 1988)]
def yl_ii : List (Nat × Nat) := [(0, 169), (1, 169), (2, 169), (3, 174), (4, 163), (5, 172), (6, 171), (7, 170), (8, 170), (9, 170), (10, 170), (11, 170), (12, 151), (13, 151), (14, 151), (15, 151), (16, 151), (17, 151), (18, 151), (19, 151), (20, 151), (21, 151), (22, 151), (23, 151), (24, 157), (25, 157), (26, 157), (27, 157), (28, 157), (29, 157), (30, 157), (31, 157), (32, 157), (33, 157), (34, 157), (35, 157), (36, 157), (37, 157), (38, 157), (39, 157), (40, 157), (41, 157), (42, 157), (43, 157), (44, 157), (45, 157), (46, 153), (47, 153), (48, 153), (49, 153), (50, 153), (51, 153), (52, 153), (53, 153), (54, 153), (55, 153), (56, 153), (57, 153), (58, 153), (59, 154), (60, 154), (61, 154), (62, 154), (63, 154), (64, 154), (65, 154), (66, 154), (67, 154), (68, 154), (69, 152), (70, 152), (71, 152), (72, 152), (73, 152), (74, 152), (75, 152), (76, 156), (77, 156), (78, 156), (79, 156), (80, 156), (81, 156), (82, 156), (83, 156), (84, 156), (85, 156), (86, 162), (87, 162), (88, 162), (89, 162), (90, 158), (91, 158), (92, 158), (93, 158), (94, 158), (95, 158), (96, 158), (97, 159), (98, 159), (99, 159), (100, 159), (101, 159), (102, 159), (103, 159), (104, 160), (105, 160), (106, 160), (107, 160), (108, 160), (109, 160), (110, 161), (111, 161), (112, 161), (113, 161), (114, 150), (115, 150), (116, 150), (117, 150), (118, 150), (119, 150), (120, 150), (121, 150), (122, 150), (123, 150), (124, 150), (125, 150), (126, 150), (127, 150), (128, 150), (129, 150), (130, 150), (131, 150), (132, 150), (133, 150), (134, 150), (135, 150), (136, 150), (137, 150), (138, 150), (139, 150), (140, 150), (141, 150), (142, 150), (143, 150), (144, 150), (145, 150), (146, 150), (147, 150), (148, 150), (149, 150), (150, 150), (151, 150), (152, 150), (153, 150), (154, 150), (155, 150), (156, 150), (157, 150), (158, 150), (159, 150), (160, 150), (161, 150), (162, 164), (163, 164), (164, 164), (165, 164), (166, 164), (167, 164), (168, 164), (169, 164), (170, 164), (171, 164), (172, 164), (173, 164), (174, 164), (175, 164), (176, 164), (177, 164), (178, 164), (179, 164), (180, 164), (181, 164), (182, 164), (183, 164), (184, 164), (185, 164), (186, 164), (187, 164), (188, 164), (189, 164), (190, 164), (191, 164), (192, 164), (193, 164), (194, 164), (195, 164), (196, 164), (197, 164), (198, 164), (199, 164), (200, 164), (201, 164), (202, 164), (203, 164), (204, 164), (205, 164), (206, 164), (207, 164), (208, 164), (209, 164), (210, 164), (211, 164), (212, 164), (213, 164), (214, 164), (215, 164), (216, 164), (217, 164), (218, 164), (219, 164), (220, 164), (221, 164), (222, 164), (223, 164), (224, 164), (225, 164), (226, 164), (227, 164), (228, 164), (229, 164), (230, 164), (231, 164), (232, 164), (233, 164), (234, 164), (235, 164), (236, 164), (237, 164), (238, 164), (239, 164), (240, 164), (241, 164), (242, 164), (243, 164), (244, 164), (245, 164), (246, 164), (247, 164), (248, 164), (249, 164), (250, 164), (251, 164), (252, 164), (253, 164), (254, 164), (255, 164), (256, 164), (257, 164), (258, 164), (259, 164), (260, 164), (261, 164), (262, 164), (263, 164), (264, 164), (265, 164), (266, 164), (267, 164), (268, 164), (269, 164), (270, 164), (271, 164), (272, 164), (273, 164), (274, 164), (275, 164), (276, 149), (277, 149), (278, 149), (279, 149), (280, 149), (281, 149), (282, 149), (283, 149), (284, 149), (285, 149), (286, 149), (287, 149), (288, 149), (289, 149), (290, 149), (291, 149), (292, 149), (293, 149), (294, 149), (295, 149), (296, 149), (297, 149), (298, 149), (299, 149), (300, 149), (301, 149), (302, 149), (303, 149), (304, 149)]
theorem yl_st_ok : yl_st.all (fun q => decide (lw_tbl[q.2]? = some (.static (yn q.1)))) = true := by decide +kernel
theorem yl_in_ok : yl_in.all (fun q => decide (lw_tbl[q.2]? = some (.instanceMethod (yn q.1)))) = true := by decide +kernel
theorem yl_se_ok : yl_se.all (fun q => decide (lw_tbl[q.2]? = some (.selects (yn q.1).cls (yn q.1) (yn q.1)))) = true := by decide +kernel
theorem yl_ii_ok : yl_ii.all (fun q => decide (lw_tbl[q.2]? = some (.initialized (yn q.1).cls))) = true := by decide +kernel
def kf : List (Nat × Nat × Nat × Nat × Nat) := [(0, 10, 0, 0, 517), (0, 19, 0, 1, 518), (0, 26, 0, 2, 519), (0, 33, 0, 3, 520), (0, 37, 0, 4, 521), (0, 43, 0, 5, 522), (0, 50, 0, 6, 523), (0, 57, 0, 7, 524), (0, 64, 0, 8, 525), (0, 71, 0, 9, 526), (0, 78, 0, 10, 527), (0, 85, 0, 11, 528), (0, 89, 0, 12, 529), (0, 137, 0, 13, 530), (0, 259, 0, 14, 531), (0, 359, 0, 15, 532), (11, 9, 11, 0, 503), (11, 24, 11, 1, 505), (6, 11, 6, 0, 393), (9, 11, 9, 0, 448), (9, 15, 9, 1, 449), (9, 40, 9, 2, 450), (9, 43, 9, 3, 452), (9, 72, 9, 4, 454), (9, 75, 9, 5, 456), (7, 13, 7, 0, 404), (7, 17, 7, 1, 405), (7, 20, 7, 2, 406), (7, 23, 7, 3, 407), (7, 27, 7, 4, 409), (3, 9, 3, 0, 246), (3, 15, 3, 1, 249), (3, 18, 3, 2, 252), (3, 21, 3, 3, 255), (3, 24, 3, 4, 259), (3, 27, 3, 5, 262), (3, 30, 3, 6, 264), (3, 33, 3, 10, 280), (3, 37, 3, 11, 282), (3, 40, 3, 7, 266), (3, 43, 3, 8, 272), (3, 46, 3, 9, 278), (4, 9, 4, 0, 326), (4, 15, 4, 1, 327), (4, 30, 4, 2, 328), (8, 9, 8, 0, 428), (8, 15, 8, 1, 429), (8, 18, 8, 2, 430), (8, 21, 8, 3, 431), (2, 11, 2, 0, 336), (2, 20, 2, 1, 339), (2, 25, 2, 2, 345), (5, 11, 5, 0, 360), (5, 15, 5, 1, 361), (5, 18, 5, 2, 362), (5, 21, 5, 3, 363), (5, 24, 5, 4, 364), (5, 86, 5, 5, 365), (5, 89, 5, 6, 367), (5, 92, 5, 7, 369), (1, 9, 1, 0, 190), (1, 15, 1, 9, 210), (1, 19, 1, 1, 191), (1, 22, 1, 8, 209), (1, 34, 1, 2, 193), (1, 37, 1, 3, 194), (1, 43, 1, 5, 202), (1, 46, 1, 6, 204), (1, 50, 1, 4, 198), (1, 61, 1, 7, 207), (10, 7, 10, 0, 478), (10, 13, 10, 1, 479), (12, 9, 12, 3, 1426), (12, 13, 12, 9, 1432), (12, 17, 12, 10, 1433), (12, 20, 12, 11, 1434), (12, 23, 12, 12, 1435), (12, 28, 12, 13, 1436), (12, 31, 12, 14, 1437), (12, 34, 12, 15, 1438), (12, 37, 12, 16, 1439), (12, 40, 12, 17, 1440), (12, 43, 12, 18, 1441), (12, 46, 12, 21, 1444), (12, 49, 12, 22, 1445), (12, 52, 12, 23, 1446), (12, 55, 12, 24, 1447), (12, 58, 12, 25, 1448), (12, 61, 12, 26, 1449), (12, 64, 12, 27, 1450), (12, 67, 12, 29, 1452), (12, 70, 12, 30, 1453), (12, 73, 12, 31, 1454), (12, 76, 12, 32, 1455), (12, 79, 12, 40, 1463), (12, 82, 12, 41, 1464), (12, 85, 12, 43, 1466), (12, 88, 12, 44, 1467), (12, 98, 12, 0, 1423), (12, 101, 12, 1, 1424), (12, 104, 12, 2, 1425), (12, 107, 12, 4, 1427), (12, 114, 12, 5, 1428), (12, 117, 12, 6, 1429), (12, 154, 12, 7, 1430), (12, 157, 12, 8, 1431), (12, 195, 12, 19, 1442), (12, 198, 12, 33, 1456), (12, 201, 12, 34, 1457), (12, 204, 12, 35, 1458), (12, 207, 12, 36, 1459), (12, 210, 12, 20, 1443), (12, 254, 12, 28, 1451), (12, 302, 12, 38, 1461), (12, 312, 12, 39, 1462), (12, 334, 12, 42, 1465), (12, 374, 12, 45, 1468), (12, 387, 12, 37, 1460)]
def kn : List (Nat × Nat × Nat × Nat × Nat) := [(0, 92, 2, 1, 340), (0, 95, 3, 10, 281), (0, 110, 1, 1, 192), (0, 124, 1, 8, 208), (0, 127, 2, 2, 346), (0, 140, 3, 7, 269), (0, 168, 5, 7, 368), (0, 171, 5, 6, 366), (0, 174, 3, 8, 277), (0, 180, 11, 1, 506), (0, 183, 1, 9, 211), (0, 190, 7, 3, 408), (0, 193, 3, 9, 279), (0, 203, 3, 11, 283), (0, 221, 3, 0, 248), (0, 225, 3, 1, 251), (0, 244, 3, 2, 254), (0, 250, 3, 3, 258), (0, 253, 3, 4, 261), (0, 269, 3, 5, 263), (0, 272, 3, 6, 265), (0, 289, 2, 0, 338), (0, 306, 8, 3, 432), (0, 321, 9, 2, 451), (0, 324, 9, 3, 453), (0, 330, 9, 4, 455), (0, 333, 9, 5, 457), (0, 376, 10, 1, 480), (0, 385, 7, 4, 410), (11, 28, 1, 4, 197), (11, 46, 1, 7, 205), (6, 36, 3, 7, 271), (6, 42, 3, 11, 284), (9, 19, 2, 1, 343), (9, 25, 3, 8, 275), (9, 31, 11, 0, 504), (9, 54, 2, 0, 337), (9, 59, 3, 3, 257), (7, 34, 6, 0, 394), (3, 55, 1, 4, 195), (3, 70, 1, 5, 200), (3, 105, 1, 7, 206), (4, 65, 1, 4, 199), (4, 80, 1, 5, 203), (8, 30, 2, 1, 341), (8, 36, 3, 8, 274), (8, 42, 3, 7, 268), (2, 42, 3, 4, 260), (2, 45, 3, 1, 250), (2, 48, 3, 3, 256), (2, 63, 3, 0, 247), (2, 69, 3, 2, 253), (5, 38, 1, 4, 196), (5, 54, 1, 5, 201), (5, 67, 3, 8, 276), (5, 76, 3, 7, 270), (5, 125, 2, 1, 344), (10, 16, 2, 1, 342), (10, 22, 3, 8, 273), (10, 27, 3, 7, 267)]
def ks : List (Nat × Nat × Nat × Nat) := [(13, 9, 0, 2008), (13, 15, 1, 2009)]
theorem kf_ok : kf.all (fun q => decide (lw_tbl[q.2.2.2.2]? = some (.fieldLink (onm q.1) q.2.1 (mclD q.2.2.1).1 ((mclD q.2.2.1).2.1 q.2.2.2.1).2.1 ((mclD q.2.2.1).2.1 q.2.2.2.1).2.2.1)) && decide (q.2.2.1 < 13) && decide (q.2.2.2.1 < nfl q.2.2.1)) = true := by decide +kernel
theorem kn_ok : kn.all (fun q => decide (lw_tbl[q.2.2.2.2]? = some (.fieldLinkNest (onm q.1) q.2.1 (mclD q.2.2.1).1 ((mclD q.2.2.1).2.1 q.2.2.2.1).2.1 ((mclD q.2.2.1).2.1 q.2.2.2.1).2.2.1 "DimpleWells")) && decide (q.2.2.1 < 13) && decide (q.2.2.2.1 < nfl q.2.2.1)) = true := by decide +kernel
def sfn (x : Nat) : String × String := if x = 0 then ("value", "[B") else ("coder", "B")
theorem ks_ok : ks.all (fun q => decide (lw_tbl[q.2.2.2]? = some (.fieldLink (onm q.1) q.2.1 "java/lang/String" (sfn q.2.2.1).1 (sfn q.2.2.1).2)) && decide (q.2.2.1 < 2)) = true := by decide +kernel
def kc : List (Nat × Nat × Nat × Nat) := [(0, 7, 1, 184), (0, 16, 2, 234), (0, 23, 5, 354), (0, 30, 6, 387), (0, 40, 7, 398), (0, 47, 8, 422), (0, 54, 9, 442), (0, 61, 10, 472), (0, 68, 3, 486), (0, 75, 4, 488), (0, 82, 11, 490), (2, 9, 4, 311), (2, 17, 3, 240), (14, 8, 0, 176), (14, 108, 12, 1404)]
def kx : List (Nat × Nat × Nat × Nat) := [(0, 262, 1, 1129), (0, 362, 2, 762), (14, 13, 2, 753), (14, 31, 1, 1120)]
def xnm (E : Nat) : String := if E = 1 then "java/util/NoSuchElementException" else "java/lang/IllegalArgumentException"
theorem kc_ok : kc.all (fun q => decide (lw_tbl[q.2.2.2]? = some (.classLink (onm q.1) q.2.1 (mclD q.2.2.1).1)) && decide (q.2.2.1 < 13)) = true := by decide +kernel
theorem kx_ok : kx.all (fun q => decide (lw_tbl[q.2.2.2]? = some (.classLink (onm q.1) q.2.1 (xnm q.2.2.1))) && decide (q.2.2.1 = 1 ∨ q.2.2.1 = 2)) = true := by decide +kernel
def km : List (Nat × Nat × Nat × Nat) := [(0, 113, 155, 758), (0, 143, 2, 955), (0, 218, 156, 1125), (0, 247, 157, 1163), (0, 275, 158, 1184), (0, 342, 159, 1318), (0, 346, 160, 1321), (0, 350, 161, 1331), (0, 379, 1, 1403), (11, 15, 87, 496), (11, 18, 4, 500), (11, 33, 89, 1088), (11, 37, 2, 1092), (6, 15, 4, 516), (6, 27, 40, 1113), (6, 31, 2, 715), (6, 45, 1, 716), (9, 36, 106, 1273), (9, 50, 107, 1278), (9, 62, 0, 1281), (9, 78, 109, 1294), (9, 82, 4, 1298), (9, 88, 1, 1299), (7, 30, 92, 1038), (3, 49, 4, 846), (3, 60, 48, 847), (3, 77, 49, 908), (3, 84, 50, 913), (3, 91, 51, 917), (3, 95, 52, 926), (3, 98, 53, 930), (3, 108, 55, 694), (3, 112, 54, 692), (3, 116, 3, 693), (4, 18, 60, 317), (4, 34, 62, 960), (4, 44, 63, 964), (4, 54, 66, 973), (4, 58, 65, 968), (4, 61, 64, 984), (4, 90, 68, 653), (8, 24, 4, 599), (8, 53, 99, 666), (8, 62, 101, 679), (8, 66, 100, 670), (8, 69, 1, 674), (8, 75, 3, 1238), (8, 84, 103, 1240), (2, 33, 2, 656), (2, 39, 1, 659), (2, 51, 0, 612), (2, 76, 3, 631), (2, 87, 71, 608), (2, 91, 70, 645), (2, 94, 72, 604), (5, 28, 78, 1007), (5, 41, 79, 1011), (5, 64, 80, 1019), (5, 72, 81, 1023), (5, 79, 82, 1028), (5, 95, 84, 1043), (5, 99, 85, 1047), (1, 25, 15, 832), (1, 28, 2, 836), (1, 40, 17, 837), (1, 53, 23, 925), (1, 57, 18, 938), (1, 64, 7, 856), (1, 69, 8, 866), (10, 30, 112, 1383), (10, 40, 113, 1387), (10, 48, 1, 1393), (14, 7, 116, 754), (14, 15, 117, 951), (14, 18, 118, 994), (14, 21, 119, 1080), (14, 24, 122, 1099), (14, 27, 123, 1121), (14, 33, 124, 1159), (14, 36, 125, 1172), (14, 39, 126, 1180), (14, 42, 127, 1192), (14, 45, 128, 1200), (14, 48, 129, 1208), (14, 52, 130, 1216), (14, 55, 132, 1223), (14, 58, 133, 1230), (14, 61, 134, 1247), (14, 64, 135, 1258), (14, 67, 136, 1265), (14, 70, 137, 1286), (14, 73, 139, 1303), (14, 76, 141, 1314), (14, 80, 142, 1327), (14, 84, 143, 1338), (14, 88, 144, 1347), (14, 91, 145, 1354), (14, 94, 146, 1361), (14, 97, 148, 1368), (14, 100, 149, 1375), (14, 103, 150, 1399), (14, 107, 114, 178), (14, 110, 162, 1406), (14, 111, 115, 566), (14, 115, 170, 1567), (14, 116, 276, 750), (14, 121, 191, 1571), (14, 122, 164, 1563), (14, 126, 277, 948), (14, 128, 201, 1647), (14, 129, 278, 991), (14, 131, 221, 1698), (14, 132, 279, 1077), (14, 134, 206, 1687), (14, 135, 120, 578), (14, 138, 207, 1694), (14, 139, 121, 582), (14, 142, 222, 1772), (14, 143, 280, 1096), (14, 145, 224, 1776), (14, 146, 281, 1117), (14, 149, 228, 1784), (14, 150, 282, 1156), (14, 152, 229, 1792), (14, 153, 283, 1169), (14, 155, 230, 1800), (14, 156, 284, 1177), (14, 158, 231, 1804), (14, 159, 285, 1189), (14, 161, 232, 1812), (14, 162, 286, 1197), (14, 164, 233, 1816), (14, 165, 287, 1205), (14, 168, 234, 1824), (14, 169, 288, 1213), (14, 171, 235, 1828), (14, 172, 131, 591), (14, 175, 239, 1836), (14, 176, 289, 1220), (14, 178, 240, 1848), (14, 179, 290, 1227), (14, 181, 242, 1852), (14, 182, 291, 1244), (14, 184, 244, 1860), (14, 185, 292, 1255), (14, 187, 245, 1868), (14, 188, 293, 1262), (14, 190, 247, 1872), (14, 191, 294, 1283), (14, 193, 250, 1880), (14, 194, 138, 683), (14, 197, 251, 1892), (14, 198, 295, 1300), (14, 200, 253, 1896), (14, 201, 140, 698), (14, 204, 236, 1832), (14, 205, 296, 1311), (14, 208, 257, 1908), (14, 209, 297, 1324), (14, 211, 258, 1918), (14, 212, 298, 1335), (14, 215, 260, 1922), (14, 216, 299, 1344), (14, 218, 261, 1930), (14, 219, 300, 1351), (14, 221, 262, 1934), (14, 222, 301, 1358), (14, 224, 263, 1938), (14, 225, 147, 717), (14, 228, 254, 1904), (14, 229, 302, 1365), (14, 231, 264, 1942), (14, 232, 303, 1372), (14, 234, 268, 1946), (14, 235, 304, 1396), (14, 238, 269, 1962), (14, 239, 151, 726), (14, 242, 272, 1966), (14, 243, 152, 734), (14, 246, 273, 1978), (14, 247, 153, 742), (14, 250, 274, 1982), (14, 251, 154, 746), (14, 254, 275, 1986), (12, 92, 163, 1412), (12, 95, 194, 1416), (12, 110, 171, 1590), (12, 120, 172, 1586), (12, 123, 174, 1631), (12, 127, 173, 1616), (12, 132, 166, 1575), (12, 136, 175, 1610), (12, 139, 177, 1606), (12, 143, 178, 1613), (12, 147, 179, 1602), (12, 151, 180, 1623), (12, 160, 187, 1598), (12, 163, 188, 1620), (12, 166, 176, 1627), (12, 170, 189, 1635), (12, 174, 182, 1639), (12, 178, 165, 1578), (12, 182, 184, 1582), (12, 185, 190, 1594), (12, 188, 185, 1643), (12, 191, 192, 1420), (12, 213, 198, 1655), (12, 216, 183, 1683), (12, 219, 195, 1667), (12, 222, 200, 1659), (12, 225, 181, 1675), (12, 228, 186, 1679), (12, 231, 196, 1663), (12, 235, 197, 1651), (12, 238, 199, 1671), (12, 241, 167, 1762), (12, 244, 168, 1733), (12, 247, 202, 1759), (12, 251, 204, 1706), (12, 257, 205, 1702), (12, 260, 169, 1691), (12, 263, 203, 1755), (12, 266, 212, 1736), (12, 270, 210, 1740), (12, 273, 211, 1744), (12, 276, 209, 1748), (12, 279, 208, 1751), (12, 283, 213, 1729), (12, 287, 214, 1725), (12, 291, 216, 1721), (12, 295, 217, 1765), (12, 298, 218, 1768), (12, 305, 220, 1713), (12, 308, 219, 1717), (12, 315, 193, 1710), (12, 319, 223, 1780), (12, 322, 226, 1796), (12, 325, 225, 1788), (12, 328, 227, 1808), (12, 331, 215, 1820), (12, 337, 237, 1844), (12, 341, 238, 1840), (12, 344, 241, 1856), (12, 347, 243, 1864), (12, 351, 246, 1876), (12, 354, 248, 1884), (12, 357, 249, 1888), (12, 360, 252, 1900), (12, 363, 255, 1915), (12, 367, 256, 1912), (12, 371, 259, 1926), (12, 378, 265, 1957), (12, 381, 267, 1950), (12, 384, 266, 1953), (12, 390, 270, 1974), (12, 394, 271, 1970), (13, 335, 9, 860), (13, 492, 10, 870), (13, 495, 6, 874), (13, 1059, 5, 882), (15, 9, 11, 877)]
def kw : List (Nat × Nat × Nat × Nat) := [(0, 9, 12, 186), (0, 18, 69, 236), (0, 25, 76, 356), (0, 32, 24, 389), (0, 42, 90, 400), (0, 49, 97, 424), (0, 56, 104, 444), (0, 63, 110, 474), (0, 70, 46, 487), (0, 77, 59, 489), (0, 84, 86, 492), (0, 99, 25, 512), (0, 103, 13, 570), (0, 107, 14, 574), (0, 117, 16, 828), (0, 120, 47, 842), (0, 130, 60, 942), (0, 133, 87, 943), (0, 136, 91, 944), (0, 149, 61, 956), (0, 150, 92, 998), (0, 154, 15, 1002), (0, 157, 77, 1003), (0, 160, 93, 1034), (0, 164, 83, 1039), (0, 177, 88, 1084), (0, 186, 94, 586), (0, 196, 27, 1103), (0, 200, 28, 1104), (0, 206, 37, 687), (0, 209, 38, 707), (0, 212, 29, 1108), (0, 215, 39, 1109), (0, 228, 31, 1145), (0, 232, 32, 1146), (0, 235, 30, 1147), (0, 238, 33, 1148), (0, 241, 34, 1152), (0, 256, 35, 1168), (0, 279, 36, 1188), (0, 282, 72, 1196), (0, 286, 73, 1204), (0, 292, 70, 1212), (0, 295, 26, 702), (0, 298, 45, 711), (0, 302, 98, 595), (0, 309, 102, 1234), (0, 313, 75, 1251), (0, 317, 105, 1269), (0, 327, 108, 1290), (0, 336, 58, 688), (0, 339, 57, 1307), (0, 356, 54, 721), (0, 367, 40, 1343), (0, 370, 56, 722), (0, 373, 111, 1379), (0, 382, 95, 730), (0, 388, 96, 738), (11, 43, 21, 1093), (11, 49, 23, 1094), (11, 53, 20, 1095), (9, 46, 71, 1277), (9, 68, 70, 1282), (3, 66, 22, 852), (3, 73, 23, 904), (3, 81, 17, 912), (3, 87, 20, 934), (3, 101, 21, 921), (4, 38, 19, 987), (4, 47, 18, 981), (4, 51, 17, 979), (4, 68, 21, 972), (4, 74, 22, 978), (4, 83, 23, 982), (4, 87, 20, 983), (8, 45, 73, 600), (8, 49, 54, 662), (8, 57, 29, 675), (8, 81, 28, 1239), (2, 19, 46, 242), (2, 24, 59, 313), (2, 29, 67, 649), (2, 55, 36, 615), (2, 60, 35, 619), (2, 66, 31, 623), (2, 72, 37, 627), (2, 81, 32, 637), (2, 84, 27, 641), (2, 98, 30, 1055), (2, 102, 41, 1059), (5, 32, 19, 1033), (5, 44, 20, 1032), (5, 50, 22, 1016), (5, 57, 23, 1017), (5, 61, 17, 1018), (5, 82, 21, 1027), (5, 103, 74, 1051), (5, 109, 42, 1063), (5, 114, 43, 1067), (5, 118, 44, 1071), (5, 121, 27, 1075), (5, 129, 45, 1076), (10, 34, 45, 1395), (10, 44, 74, 1392), (10, 54, 42, 1394)]
def ko : List (Nat × Nat × Nat) := [(0, 1, 181), (11, 3, 495), (6, 5, 392), (9, 3, 447), (7, 7, 403), (3, 3, 245), (4, 3, 316), (8, 3, 427), (2, 3, 239), (5, 3, 359), (1, 3, 189), (10, 1, 477), (12, 1, 1409)]
def ka : List (Nat × Nat × Nat) := [(6, 21, 706), (7, 37, 590), (4, 24, 323)]
theorem km_ok : km.all (fun q => decide (lw_tbl[q.2.2.2]? = some (.methodLink (onm q.1) q.2.1 (yn q.2.2.1))) && decide (q.2.2.1 < 305)) = true := by decide +kernel
theorem kw_ok : kw.all (fun q => decide (lw_tbl[q.2.2.2]? = some (.methodLinkNest (onm q.1) q.2.1 (yn q.2.2.1) "DimpleWells")) && decide (q.2.2.1 < 305)) = true := by decide +kernel
theorem ko_ok : ko.all (fun q => decide (lw_tbl[q.2.2]? = some (.methodLink (onm q.1) q.2.1 objectInit))) = true := by decide +kernel
theorem ka_ok : ka.all (fun q => decide (lw_tbl[q.2.2]? = some (.methodLink (onm q.1) q.2.1 arraycopyName))) = true := by decide +kernel
def kk : List (Nat × Nat × Int32 × Nat) := [(1, 49, 100000, 841), (10, 58, 1103515245, 1391), (12, 131, 100000, 1634), (12, 377, 1103515245, 1961), (17, 265, 1431655765, 634), (17, 266, 858993459, 635), (17, 267, 252645135, 636)]
theorem kk_ok : kk.all (fun q => decide (lw_tbl[q.2.2.2]? = some (.constant (onm q.1) q.2.1 q.2.2.1))) = true := by decide +kernel
def kl : List (Nat × Nat × Nat × Nat) := [(0, 354, 2, 1334)]
theorem kl_ok : kl.all (fun q => decide (lw_tbl[q.2.2.2]? = some (.constantLong (onm q.1) q.2.1 (Int64.ofNat q.2.2.1)))) = true := by decide +kernel
def kt : List (Nat × Nat × Nat × String × Nat) := [(0, 264, 1000091, "no such street", 1176), (0, 364, 1000092, "bits of no persons", 1342), (0, 391, 1000093, "out of its range", 802), (0, 393, 1000094, "no such person", 1138), (0, 395, 1000095, "no such joke", 1167), (3, 64, 1000002, "person joke street jug drink", 851), (4, 72, 1000003, "strong apart worn told dimples grief near thirst day person", 977), (4, 78, 1000004, "least most", 980), (5, 48, 1000005, "tell grieve cheer pour day again", 1015)]
theorem kt_ok : kt.all (fun q => decide (lw_tbl[q.2.2.2.2]? = some (.stringRef (onm q.1) q.2.1 q.2.2.2.1))) = true := by decide +kernel
