/-! rows of fields: own class, entry, named class, place, classes, word, word that it is the same, 0 a number 1 a reference, 0 not final 1 final and its own 2 final -/
abbrev pFT : Type := Nat × Nat × String × Nat × List Nat × Nat × Nat × Nat × Nat
def pF : List pFT := [
  (1, 19, "NotYetSaid$Game", 1, [1, 7], 358, 359, 0, 2),
  (2, 11, "NotYetSaid$Host", 0, [2], 270, 0, 1, 1),
  (2, 15, "NotYetSaid$Host", 1, [2], 271, 0, 1, 1),
  (2, 20, "NotYetSaid$Host", 2, [2], 272, 0, 1, 1),
  (2, 23, "NotYetSaid$Host", 3, [2], 273, 0, 1, 1),
  (2, 26, "NotYetSaid$Host", 4, [2], 274, 0, 1, 1),
  (2, 29, "NotYetSaid$Host", 5, [2], 275, 0, 1, 1),
  (2, 60, "NotYetSaid$Host", 6, [2], 276, 0, 0, 0),
  (2, 64, "NotYetSaid$Host", 7, [2], 278, 0, 0, 0),
  (3, 13, "NotYetSaid$Ride", 0, [3], 147, 0, 1, 1),
  (3, 17, "NotYetSaid$Ride", 2, [3], 151, 0, 1, 1),
  (3, 21, "NotYetSaid$Ride", 3, [3], 152, 0, 1, 1),
  (3, 24, "NotYetSaid$Ride", 7, [3], 161, 0, 0, 0),
  (3, 28, "NotYetSaid$Ride", 8, [3], 164, 0, 0, 0),
  (3, 34, "NotYetSaid$Ride", 9, [3], 166, 0, 1, 0),
  (3, 38, "NotYetSaid$Ride", 10, [3], 168, 0, 1, 1),
  (3, 41, "NotYetSaid$Ride", 11, [3], 169, 0, 1, 1),
  (3, 44, "NotYetSaid$Ride", 12, [3], 170, 0, 1, 1),
  (3, 47, "NotYetSaid$Ride", 1, [3], 148, 0, 0, 0),
  (3, 54, "NotYetSaid$Answer", 2, [0, 1, 7, 8, 9], 365, 0, 0, 0),
  (3, 57, "NotYetSaid$Answer", 3, [0, 1, 7, 8, 9], 370, 0, 0, 0),
  (3, 60, "NotYetSaid$Answer", 4, [0, 1, 7, 8, 9], 373, 0, 0, 0),
  (3, 67, "NotYetSaid$Answer", 1, [0, 1, 7, 8, 9], 360, 0, 0, 2),
  (3, 70, "NotYetSaid$Ride", 4, [3], 153, 0, 0, 0),
  (3, 81, "NotYetSaid$Ride", 5, [3], 156, 0, 0, 0),
  (3, 84, "NotYetSaid$Ride", 6, [3], 160, 0, 0, 0),
  (3, 91, "NotYetSaid$Answer", 5, [0, 1, 7, 8, 9], 381, 0, 0, 0),
  (3, 102, "NotYetSaid$Rules", 0, [5], 117, 0, 0, 0),
  (3, 105, "NotYetSaid$Answer", 0, [0, 1, 7, 8, 9], 356, 0, 0, 2),
  (3, 145, "NotYetSaid$Ride", 13, [3], 171, 0, 0, 0),
  (4, 9, "NotYetSaid$RuleReader", 0, [4], 235, 0, 1, 0),
  (4, 15, "NotYetSaid$RuleReader", 2, [4], 237, 0, 1, 1),
  (4, 19, "NotYetSaid$RuleReader", 3, [4], 238, 0, 1, 1),
  (4, 22, "NotYetSaid$RuleReader", 4, [4], 239, 0, 1, 1),
  (4, 28, "NotYetSaid$RuleReader", 7, [4], 242, 0, 1, 0),
  (4, 38, "NotYetSaid$RuleReader", 1, [4], 236, 0, 0, 0),
  (4, 45, "NotYetSaid$RuleReader", 6, [4], 241, 0, 0, 0),
  (4, 56, "NotYetSaid$RuleReader", 5, [4], 240, 0, 0, 0),
  (4, 59, "NotYetSaid$Rules", 0, [5], 116, 0, 0, 0),
  (5, 9, "NotYetSaid$Rules", 1, [5], 119, 0, 1, 1),
  (5, 13, "NotYetSaid$Rules", 2, [5], 120, 0, 1, 1),
  (5, 16, "NotYetSaid$Rules", 3, [5], 121, 0, 1, 1),
  (5, 19, "NotYetSaid$Rules", 4, [5], 122, 0, 1, 1),
  (5, 22, "NotYetSaid$Rules", 5, [5], 123, 0, 1, 1),
  (5, 25, "NotYetSaid$Rules", 6, [5], 124, 0, 1, 1),
  (5, 28, "NotYetSaid$Rules", 7, [5], 125, 0, 1, 1),
  (5, 31, "NotYetSaid$Rules", 8, [5], 126, 0, 0, 0),
  (5, 35, "NotYetSaid$Rules", 0, [5], 115, 0, 0, 0),
  (6, 11, "NotYetSaid$Search", 1, [6], 209, 0, 1, 1),
  (6, 15, "NotYetSaid$Search", 2, [6], 210, 0, 1, 1),
  (6, 18, "NotYetSaid$Search", 3, [6], 211, 0, 1, 1),
  (6, 21, "NotYetSaid$Search", 4, [6], 212, 0, 1, 1),
  (6, 24, "NotYetSaid$Search", 0, [6], 208, 0, 1, 1),
  (6, 28, "NotYetSaid$Ride", 7, [3], 162, 0, 0, 0),
  (6, 38, "NotYetSaid$Ride", 1, [3], 149, 0, 0, 0),
  (6, 57, "NotYetSaid$Ride", 6, [3], 158, 0, 0, 0),
  (6, 60, "NotYetSaid$Ride", 5, [3], 155, 0, 0, 0),
  (6, 96, "NotYetSaid$Search", 5, [6], 213, 0, 0, 0),
  (7, 11, "NotYetSaid$Song", 5, [7], 377, 378, 0, 0),
  (7, 35, "NotYetSaid$Song", 2, [7], 367, 368, 0, 0),
  (8, 7, "NotYetSaid$Soon", 5, [8], 375, 376, 0, 0),
  (9, 24, "NotYetSaid$Stop", 1, [9], 361, 362, 0, 2),
  (10, 10, "NotYetSaid", 0, [10], 297, 0, 1, 1),
  (10, 16, "NotYetSaid", 1, [10], 298, 0, 1, 1),
  (10, 24, "NotYetSaid", 3, [10], 300, 0, 1, 1),
  (10, 31, "NotYetSaid", 4, [10], 301, 0, 1, 1),
  (10, 35, "NotYetSaid", 5, [10], 302, 0, 1, 1),
  (10, 41, "NotYetSaid", 7, [10], 304, 0, 1, 1),
  (10, 47, "NotYetSaid", 9, [10], 306, 0, 1, 1),
  (10, 67, "NotYetSaid$Answer", 0, [0, 1, 7, 8, 9], 355, 0, 0, 2),
  (10, 73, "NotYetSaid$Answer", 2, [0, 1, 7, 8, 9], 366, 0, 0, 0),
  (10, 76, "NotYetSaid$Answer", 3, [0, 1, 7, 8, 9], 371, 0, 0, 0),
  (10, 79, "NotYetSaid$Answer", 4, [0, 1, 7, 8, 9], 374, 0, 0, 0),
  (10, 82, "NotYetSaid$Answer", 5, [0, 1, 7, 8, 9], 380, 0, 0, 0),
  (10, 93, "NotYetSaid$Answer", 1, [0, 1, 7, 8, 9], 363, 0, 0, 2),
  (10, 129, "NotYetSaid$Ride", 6, [3], 159, 0, 0, 0),
  (10, 136, "NotYetSaid$Ride", 5, [3], 157, 0, 0, 0),
  (10, 139, "NotYetSaid$Ride", 7, [3], 163, 0, 0, 0),
  (10, 145, "NotYetSaid", 6, [10], 303, 0, 0, 0),
  (10, 155, "NotYetSaid$Ride", 9, [3], 167, 0, 1, 0),
  (10, 159, "NotYetSaid$Rules", 0, [5], 118, 0, 0, 0),
  (10, 204, "NotYetSaid$Ride", 1, [3], 150, 0, 0, 0),
  (10, 216, "NotYetSaid$Ride", 13, [3], 172, 0, 0, 0),
  (10, 225, "NotYetSaid$Ride", 8, [3], 165, 0, 0, 0),
  (10, 244, "NotYetSaid", 8, [10], 305, 0, 0, 0),
  (10, 323, "NotYetSaid$Host", 7, [2], 279, 0, 0, 0),
  (10, 330, "NotYetSaid$Ride", 4, [3], 154, 0, 0, 0),
  (10, 333, "NotYetSaid$Host", 6, [2], 277, 0, 0, 0),
  (10, 339, "NotYetSaid", 2, [10], 299, 0, 0, 0),
  (11, 7, "NotYetSaidModel", 0, [11], 1192, 0, 1, 1),
  (11, 13, "NotYetSaidModel", 1, [11], 1193, 0, 1, 1),
  (11, 16, "NotYetSaidModel", 2, [11], 1194, 0, 1, 1),
  (11, 19, "NotYetSaidModel", 4, [11], 1196, 0, 1, 1),
  (11, 22, "NotYetSaidModel", 5, [11], 1197, 0, 1, 1),
  (11, 25, "NotYetSaidModel", 10, [11], 1202, 0, 1, 1),
  (11, 28, "NotYetSaidModel", 12, [11], 1204, 0, 1, 1),
  (11, 31, "NotYetSaidModel", 20, [11], 1212, 0, 1, 1),
  (11, 34, "NotYetSaidModel", 21, [11], 1213, 0, 1, 1),
  (11, 37, "NotYetSaidModel", 22, [11], 1214, 0, 1, 1),
  (11, 40, "NotYetSaidModel", 23, [11], 1215, 0, 1, 1),
  (11, 43, "NotYetSaidModel", 24, [11], 1216, 0, 1, 1),
  (11, 46, "NotYetSaidModel", 25, [11], 1217, 0, 1, 1),
  (11, 49, "NotYetSaidModel", 26, [11], 1218, 0, 1, 1),
  (11, 134, "NotYetSaidModel", 6, [11], 1198, 0, 0, 0),
  (11, 184, "NotYetSaidModel", 7, [11], 1199, 0, 0, 0),
  (11, 187, "NotYetSaidModel", 8, [11], 1200, 0, 0, 0),
  (11, 190, "NotYetSaidModel", 9, [11], 1201, 0, 0, 0),
  (11, 207, "NotYetSaidModel", 11, [11], 1203, 0, 0, 0),
  (11, 215, "NotYetSaidModel", 13, [11], 1205, 0, 0, 0),
  (11, 228, "NotYetSaidModel", 15, [11], 1207, 0, 0, 0),
  (11, 231, "NotYetSaidModel", 14, [11], 1206, 0, 0, 0),
  (11, 243, "NotYetSaidModel", 19, [11], 1211, 0, 0, 0),
  (11, 254, "NotYetSaidModel", 16, [11], 1208, 0, 0, 0),
  (11, 287, "NotYetSaidModel", 18, [11], 1210, 0, 0, 0),
  (11, 304, "NotYetSaidModel", 17, [11], 1209, 0, 0, 0),
  (11, 367, "NotYetSaidModel", 31, [11], 1223, 0, 0, 0),
  (11, 370, "NotYetSaidModel", 27, [11], 1219, 0, 0, 0),
  (11, 373, "NotYetSaidModel", 30, [11], 1222, 0, 0, 0),
  (11, 379, "NotYetSaidModel", 29, [11], 1221, 0, 0, 0),
  (11, 385, "NotYetSaidModel", 28, [11], 1220, 0, 0, 0),
  (11, 403, "NotYetSaidModel", 3, [11], 1195, 0, 0, 0),
  (12, 7, "NotYetSaid$Answer", 0, [0, 1, 7, 8, 9], 354, 0, 0, 1),
  (12, 13, "NotYetSaid$Answer", 1, [0, 1, 7, 8, 9], 357, 0, 0, 1),
  (12, 35, "NotYetSaid$Answer", 2, [0, 1, 7, 8, 9], 364, 0, 0, 0),
  (12, 38, "NotYetSaid$Answer", 3, [0, 1, 7, 8, 9], 369, 0, 0, 0),
  (12, 41, "NotYetSaid$Answer", 4, [0, 1, 7, 8, 9], 372, 0, 0, 0),
  (12, 44, "NotYetSaid$Answer", 5, [0, 1, 7, 8, 9], 379, 0, 0, 0)]
/-! constants: own class, entry, value, word -/
abbrev pKT : Type := Nat × Nat × Value × Nat
def pK : List pKT := [
  (3, 144, .int 1103515245, 920),
  (4, 114, .retAddr 1, 0),
  (11, 71, .long 99, 1296),
  (11, 73, .long 2, 1300),
  (11, 83, .long 5, 1332),
  (11, 85, .long 60, 1336),
  (11, 87, .long 100, 1337),
  (11, 89, .long 9, 1338),
  (11, 123, .long 6, 1350),
  (11, 148, .long 3, 1437),
  (11, 150, .long 4, 1445),
  (11, 182, .long 999, 1517),
  (11, 200, .int 1103515245, 1543),
  (11, 213, .long 8, 1576),
  (11, 218, .long 255, 1577),
  (11, 220, .long 97, 1593),
  (11, 222, .long 122, 1594),
  (11, 224, .long 48, 1598),
  (11, 226, .long 57, 1599),
  (11, 250, .long 36028797018963967, 1612),
  (11, 252, .long 32, 1613),
  (11, 265, .long 48880818, 1614),
  (11, 267, .long 638446, 1615),
  (11, 269, .long 230821, 1616),
  (11, 271, .long 638407, 1617),
  (11, 273, .long 2469516596, 1618),
  (11, 275, .long 643568, 1619),
  (11, 277, .long 12455, 1650),
  (11, 279, .long 441828, 1651),
  (11, 281, .long 671108, 1652),
  (11, 283, .long 72754342, 1653),
  (11, 285, .long 492210354, 1654),
  (11, 302, .long 14836, 1637),
  (11, 316, .long 1476, 1663),
  (11, 321, .long 498, 1664),
  (11, 326, .long 294, 1624),
  (11, 328, .long 441925, 1665),
  (11, 330, .long 398963, 1666),
  (11, 332, .long 14636, 1667),
  (11, 340, .long (-1), 1675),
  (11, 348, .long 20, 1699),
  (11, 360, .long 10, 1717),
  (11, 362, .long 14, 1718),
  (15, 265, .int 1431655765, 917),
  (15, 266, .int 858993459, 918),
  (15, 267, .int 252645135, 919),
  (13, 58, .long 4294967295, 1771)]
/-! makings: own class, entry, class, words -/
abbrev pNT : Type := Nat × Nat × Nat × Nat × Nat × Nat
def pM : List pNT := [
  (3, 31, 5, 109, 110, 74),
  (4, 25, 5, 233, 110, 74),
  (10, 7, 3, 101, 102, 73),
  (10, 19, 6, 202, 203, 75),
  (10, 28, 4, 227, 228, 76),
  (10, 44, 2, 263, 264, 77),
  (12, 16, 8, 345, 346, 80),
  (12, 21, 1, 395, 396, 81),
  (12, 26, 7, 408, 409, 82),
  (12, 29, 0, 421, 422, 83),
  (12, 32, 9, 434, 435, 84),
  (13, 7, 10, 93, 94, 72),
  (13, 10, 11, 1186, 1187, 78)]
/-! calls: own class, entry, kind (0 static, 1 the same of a nest mate, 2 a constructor, 3 of a nest mate, 4 that of Object, 5 virtual, 6 by the receiver, 7 super, 8 arraycopy, 9 length, 10 charAt, 11 max, 12 min), numbers of arguments, name, its class, (class, method) -/
abbrev pCT : Type := Nat × Nat × Nat × Nat × MethodName × String × List (Nat × Nat)
def pC_0 : List pCT := [
  (0, 1, 2, 2, ⟨"NotYetSaid$Answer", "<init>", "(II)V"⟩, "NotYetSaid$Answer", [(0, 278)]),
  (0, 9, 5, 1, ⟨"NotYetSaid$Host", "began", "(I)V"⟩, "NotYetSaid$Host", [(2, 24)]),
  (0, 15, 7, 2, ⟨"NotYetSaid$Answer", "shares", "(ILNotYetSaid$Host;)I"⟩, "NotYetSaid$Answer", [(0, 283)]),
  (1, 3, 2, 2, ⟨"NotYetSaid$Answer", "<init>", "(II)V"⟩, "NotYetSaid$Answer", [(0, 278)]),
  (1, 9, 5, 1, ⟨"NotYetSaid$Host", "began", "(I)V"⟩, "NotYetSaid$Host", [(2, 24)]),
  (1, 15, 7, 2, ⟨"NotYetSaid$Answer", "sways", "(ILNotYetSaid$Host;)I"⟩, "NotYetSaid$Answer", [(0, 282)]),
  (2, 3, 4, 0, ⟨"java/lang/Object", "<init>", "()V"⟩, "java/lang/Object", []),
  (2, 32, 5, 1, ⟨"NotYetSaid$Host", "isSheet", "(I)Z"⟩, "NotYetSaid$Host", [(2, 7)]),
  (2, 36, 0, 2, ⟨"java/util/Arrays", "fill", "([II)V"⟩, "java/util/Arrays", [(0, 286)]),
  (2, 42, 5, 1, ⟨"NotYetSaid$Host", "isMissing", "(I)Z"⟩, "NotYetSaid$Host", [(2, 8)]),
  (2, 45, 5, 2, ⟨"NotYetSaid$Host", "hasItem", "(II)Z"⟩, "NotYetSaid$Host", [(2, 11)]),
  (2, 49, 0, 2, ⟨"NotYetSaid$Host", "narrowed", "(II)I"⟩, "NotYetSaid$Host", [(0, 14)]),
  (2, 53, 5, 1, ⟨"NotYetSaid$Host", "isShelf", "(I)Z"⟩, "NotYetSaid$Host", [(2, 15)]),
  (2, 56, 5, 1, ⟨"NotYetSaid$Host", "clearShelf", "(I)V"⟩, "NotYetSaid$Host", [(2, 16)]),
  (3, 3, 4, 0, ⟨"java/lang/Object", "<init>", "()V"⟩, "java/lang/Object", []),
  (3, 33, 3, 0, ⟨"NotYetSaid$Rules", "<init>", "()V"⟩, "NotYetSaid$Rules", [(0, 70)]),
  (3, 50, 0, 2, ⟨"NotYetSaid$Answer", "make", "(II)LNotYetSaid$Answer;"⟩, "NotYetSaid$Answer", [(0, 279)]),
  (3, 63, 5, 1, ⟨"NotYetSaid$Ride", "putAnswer", "(LNotYetSaid$Answer;)V"⟩, "NotYetSaid$Ride", [(3, 30)]),
  (3, 73, 5, 3, ⟨"NotYetSaid$Ride", "changeLeg", "(III)V"⟩, "NotYetSaid$Ride", [(3, 33)]),
  (3, 77, 5, 1, ⟨"NotYetSaid$Ride", "hasLeg", "(I)Z"⟩, "NotYetSaid$Ride", [(3, 31)]),
  (3, 87, 5, 1, ⟨"NotYetSaid$Ride", "answerAt", "(I)LNotYetSaid$Answer;"⟩, "NotYetSaid$Ride", [(3, 28)]),
  (3, 94, 5, 0, ⟨"NotYetSaid$Ride", "legNow", "()I"⟩, "NotYetSaid$Ride", [(3, 36)]),
  (3, 98, 5, 1, ⟨"NotYetSaid$Ride", "moodOf", "(I)I"⟩, "NotYetSaid$Ride", [(3, 35)]),
  (3, 108, 5, 3, ⟨"NotYetSaid$Rules", "changed", "(II[I)I"⟩, "NotYetSaid$Rules", [(5, 73)]),
  (3, 112, 6, 2, ⟨"NotYetSaid$Answer", "lasts", "(II)I"⟩, "NotYetSaid$Answer", [(0, 1), (1, 4), (7, 97), (8, 101), (9, 104)]),
  (3, 116, 11, 2, ⟨"java/lang/Math", "max", "(II)I"⟩, "java/lang/Math", []),
  (3, 121, 5, 0, ⟨"NotYetSaid$Ride", "isOver", "()Z"⟩, "NotYetSaid$Ride", [(3, 37)]),
  (3, 125, 5, 1, ⟨"NotYetSaid$Ride", "canBeTold", "(LNotYetSaid$Answer;)Z"⟩, "NotYetSaid$Ride", [(3, 40)]),
  (3, 129, 5, 1, ⟨"NotYetSaid$Ride", "holdsNow", "(LNotYetSaid$Answer;)I"⟩, "NotYetSaid$Ride", [(3, 39)]),
  (3, 133, 12, 2, ⟨"java/lang/Math", "min", "(II)I"⟩, "java/lang/Math", []),
  (3, 136, 5, 0, ⟨"NotYetSaid$Ride", "tellable", "()I"⟩, "NotYetSaid$Ride", [(3, 41)]),
  (3, 139, 0, 1, ⟨"java/lang/Integer", "bitCount", "(I)I"⟩, "java/lang/Integer", [(0, 285)]),
  (3, 148, 5, 2, ⟨"NotYetSaid$Ride", "fits", "(II)Z"⟩, "NotYetSaid$Ride", [(3, 46)]),
  (3, 152, 6, 1, ⟨"NotYetSaid$Answer", "takeOver", "(LNotYetSaid$Answer;)V"⟩, "NotYetSaid$Answer", [(0, 280), (1, 280), (7, 280), (8, 280), (9, 280)]),
  (3, 155, 8, 5, ⟨"java/lang/System", "arraycopy", "(Ljava/lang/Object;ILjava/lang/Object;II)V"⟩, "java/lang/System", []),
  (4, 3, 4, 0, ⟨"java/lang/Object", "<init>", "()V"⟩, "java/lang/Object", []),
  (4, 27, 3, 0, ⟨"NotYetSaid$Rules", "<init>", "()V"⟩, "NotYetSaid$Rules", [(0, 70)]),
  (4, 32, 12, 2, ⟨"java/lang/Math", "min", "(II)I"⟩, "java/lang/Math", []),
  (4, 42, 5, 0, ⟨"NotYetSaid$RuleReader", "scan", "()V"⟩, "NotYetSaid$RuleReader", [(4, 61)]),
  (4, 48, 5, 0, ⟨"NotYetSaid$RuleReader", "token", "()I"⟩, "NotYetSaid$RuleReader", [(4, 59)])]
def pC_1 : List pCT := [
  (4, 52, 5, 0, ⟨"NotYetSaid$RuleReader", "readRule", "()Z"⟩, "NotYetSaid$RuleReader", [(4, 52)]),
  (4, 62, 5, 1, ⟨"NotYetSaid$RuleReader", "readCondition", "(I)Z"⟩, "NotYetSaid$RuleReader", [(4, 54)]),
  (4, 66, 5, 1, ⟨"NotYetSaid$RuleReader", "readDeed", "(I)Z"⟩, "NotYetSaid$RuleReader", [(4, 53)]),
  (4, 69, 5, 0, ⟨"NotYetSaid$RuleReader", "value", "()I"⟩, "NotYetSaid$RuleReader", [(4, 60)]),
  (4, 72, 5, 3, ⟨"NotYetSaid$Rules", "endRule", "(III)V"⟩, "NotYetSaid$Rules", [(5, 72)]),
  (4, 76, 5, 1, ⟨"NotYetSaid$RuleReader", "readOne", "(I)Z"⟩, "NotYetSaid$RuleReader", [(4, 55)]),
  (4, 79, 5, 3, ⟨"NotYetSaid$Rules", "addStep", "(III)V"⟩, "NotYetSaid$Rules", [(5, 71)]),
  (4, 82, 5, 1, ⟨"NotYetSaid$RuleReader", "readGroup", "(I)Z"⟩, "NotYetSaid$RuleReader", [(4, 56)]),
  (4, 85, 5, 0, ⟨"NotYetSaid$RuleReader", "readComparison", "()Z"⟩, "NotYetSaid$RuleReader", [(4, 57)]),
  (4, 88, 0, 1, ⟨"NotYetSaid$RuleReader", "isValue", "(I)Z"⟩, "NotYetSaid$RuleReader", [(0, 58)]),
  (4, 91, 5, 1, ⟨"NotYetSaid$RuleReader", "endOfRun", "(I)I"⟩, "NotYetSaid$RuleReader", [(4, 65)]),
  (4, 95, 5, 1, ⟨"NotYetSaid$RuleReader", "byteAt", "(I)I"⟩, "NotYetSaid$RuleReader", [(4, 62)]),
  (4, 98, 5, 2, ⟨"NotYetSaid$RuleReader", "sortOf", "(II)I"⟩, "NotYetSaid$RuleReader", [(4, 66)]),
  (4, 101, 5, 3, ⟨"NotYetSaid$RuleReader", "valueOf", "(III)I"⟩, "NotYetSaid$RuleReader", [(4, 69)]),
  (4, 105, 0, 1, ⟨"NotYetSaid$RuleReader", "isLetter", "(I)Z"⟩, "NotYetSaid$RuleReader", [(0, 63)]),
  (4, 108, 0, 1, ⟨"NotYetSaid$RuleReader", "isDigit", "(I)Z"⟩, "NotYetSaid$RuleReader", [(0, 64)]),
  (4, 111, 5, 2, ⟨"NotYetSaid$RuleReader", "wordOf", "(II)I"⟩, "NotYetSaid$RuleReader", [(4, 67)]),
  (4, 116, 9, 0, ⟨"java/lang/String", "length", "()I"⟩, "java/lang/String", []),
  (4, 120, 10, 1, ⟨"java/lang/String", "charAt", "(I)C"⟩, "java/lang/String", []),
  (4, 124, 5, 3, ⟨"NotYetSaid$RuleReader", "isSame", "(III)Z"⟩, "NotYetSaid$RuleReader", [(4, 68)]),
  (5, 1, 4, 0, ⟨"java/lang/Object", "<init>", "()V"⟩, "java/lang/Object", []),
  (5, 38, 1, 2, ⟨"NotYetSaid", "isUnder", "(II)Z"⟩, "NotYetSaid", [(0, 163)]),
  (5, 44, 5, 3, ⟨"NotYetSaid$Rules", "isSo", "(II[I)Z"⟩, "NotYetSaid$Rules", [(5, 75)]),
  (5, 48, 0, 3, ⟨"NotYetSaid$Rules", "done", "(III)I"⟩, "NotYetSaid$Rules", [(0, 74)]),
  (5, 52, 11, 2, ⟨"java/lang/Math", "max", "(II)I"⟩, "java/lang/Math", []),
  (5, 58, 5, 2, ⟨"NotYetSaid$Rules", "compared", "(I[I)I"⟩, "NotYetSaid$Rules", [(5, 76)]),
  (6, 3, 4, 0, ⟨"java/lang/Object", "<init>", "()V"⟩, "java/lang/Object", []),
  (6, 34, 5, 0, ⟨"NotYetSaid$Ride", "isOver", "()Z"⟩, "NotYetSaid$Ride", [(3, 37)]),
  (6, 41, 5, 1, ⟨"NotYetSaid$Ride", "tell", "(I)I"⟩, "NotYetSaid$Ride", [(3, 42)]),
  (6, 45, 0, 3, ⟨"NotYetSaid$Search", "arrives", "(LNotYetSaid$Ride;II)Z"⟩, "NotYetSaid$Search", [(0, 78)]),
  (6, 49, 5, 2, ⟨"NotYetSaid$Ride", "untell", "(II)V"⟩, "NotYetSaid$Ride", [(3, 43)]),
  (6, 53, 0, 2, ⟨"NotYetSaid$Search", "arriving", "(LNotYetSaid$Ride;I)I"⟩, "NotYetSaid$Search", [(0, 79)]),
  (6, 63, 0, 2, ⟨"NotYetSaid$Search", "farthest", "(LNotYetSaid$Ride;I)I"⟩, "NotYetSaid$Search", [(0, 80)]),
  (6, 66, 11, 2, ⟨"java/lang/Math", "max", "(II)I"⟩, "java/lang/Math", []),
  (6, 72, 0, 3, ⟨"NotYetSaid$Search", "kindest", "(LNotYetSaid$Ride;II)I"⟩, "NotYetSaid$Search", [(0, 81)]),
  (6, 76, 0, 2, ⟨"NotYetSaid$Search", "valueOf", "(LNotYetSaid$Ride;I)I"⟩, "NotYetSaid$Search", [(0, 82)]),
  (6, 79, 0, 1, ⟨"NotYetSaid$Search", "valueBehind", "(I)I"⟩, "NotYetSaid$Search", [(0, 83)]),
  (6, 82, 0, 2, ⟨"NotYetSaid$Search", "better", "(II)I"⟩, "NotYetSaid$Search", [(0, 84)]),
  (6, 85, 5, 1, ⟨"NotYetSaid$Search", "step", "(I)Z"⟩, "NotYetSaid$Search", [(6, 89)]),
  (6, 89, 5, 0, ⟨"NotYetSaid$Search", "stepBack", "()V"⟩, "NotYetSaid$Search", [(6, 90)])]
def pC_2 : List pCT := [
  (6, 92, 5, 0, ⟨"NotYetSaid$Ride", "drawn", "()I"⟩, "NotYetSaid$Ride", [(3, 44)]),
  (6, 99, 5, 1, ⟨"NotYetSaid$Search", "isStep", "(I)Z"⟩, "NotYetSaid$Search", [(6, 92)]),
  (7, 1, 2, 2, ⟨"NotYetSaid$Game", "<init>", "(II)V"⟩, "NotYetSaid$Game", [(0, 3)]),
  (7, 7, 7, 2, ⟨"NotYetSaid$Game", "lasts", "(II)I"⟩, "NotYetSaid$Game", [(0, 4)]),
  (7, 17, 11, 2, ⟨"java/lang/Math", "max", "(II)I"⟩, "java/lang/Math", []),
  (7, 22, 5, 1, ⟨"NotYetSaid$Host", "began", "(I)V"⟩, "NotYetSaid$Host", [(2, 24)]),
  (7, 28, 7, 2, ⟨"NotYetSaid$Game", "says", "(ILNotYetSaid$Host;)I"⟩, "NotYetSaid$Answer", [(0, 281)]),
  (7, 32, 7, 2, ⟨"NotYetSaid$Game", "tells", "(ILNotYetSaid$Host;)I"⟩, "NotYetSaid$Answer", [(0, 284)]),
  (7, 38, 6, 2, ⟨"NotYetSaid$Song", "shares", "(ILNotYetSaid$Host;)I"⟩, "NotYetSaid$Answer", [(7, 283)]),
  (8, 1, 2, 2, ⟨"NotYetSaid$Answer", "<init>", "(II)V"⟩, "NotYetSaid$Answer", [(0, 278)]),
  (8, 13, 5, 1, ⟨"NotYetSaid$Host", "began", "(I)V"⟩, "NotYetSaid$Host", [(2, 24)]),
  (8, 19, 7, 2, ⟨"NotYetSaid$Answer", "says", "(ILNotYetSaid$Host;)I"⟩, "NotYetSaid$Answer", [(0, 281)]),
  (9, 1, 2, 2, ⟨"NotYetSaid$Biscuit", "<init>", "(II)V"⟩, "NotYetSaid$Biscuit", [(0, 0)]),
  (9, 7, 7, 2, ⟨"NotYetSaid$Biscuit", "lasts", "(II)I"⟩, "NotYetSaid$Biscuit", [(0, 1)]),
  (9, 11, 5, 1, ⟨"NotYetSaid$Host", "began", "(I)V"⟩, "NotYetSaid$Host", [(2, 24)]),
  (9, 17, 7, 2, ⟨"NotYetSaid$Biscuit", "sways", "(ILNotYetSaid$Host;)I"⟩, "NotYetSaid$Answer", [(0, 282)]),
  (9, 21, 7, 2, ⟨"NotYetSaid$Biscuit", "shares", "(ILNotYetSaid$Host;)I"⟩, "NotYetSaid$Biscuit", [(0, 2)]),
  (9, 30, 6, 2, ⟨"NotYetSaid$Stop", "says", "(ILNotYetSaid$Host;)I"⟩, "NotYetSaid$Answer", [(9, 281)]),
  (10, 1, 4, 0, ⟨"java/lang/Object", "<init>", "()V"⟩, "java/lang/Object", []),
  (10, 9, 3, 0, ⟨"NotYetSaid$Ride", "<init>", "()V"⟩, "NotYetSaid$Ride", [(0, 27)]),
  (10, 21, 2, 1, ⟨"NotYetSaid$Search", "<init>", "(LNotYetSaid$Ride;)V"⟩, "NotYetSaid$Search", [(0, 77)]),
  (10, 30, 3, 0, ⟨"NotYetSaid$RuleReader", "<init>", "()V"⟩, "NotYetSaid$RuleReader", [(0, 49)]),
  (10, 46, 3, 0, ⟨"NotYetSaid$Host", "<init>", "()V"⟩, "NotYetSaid$Host", [(0, 6)]),
  (10, 51, 0, 3, ⟨"NotYetSaid", "between", "(III)Z"⟩, "NotYetSaid", [(0, 156)]),
  (10, 55, 0, 2, ⟨"NotYetSaid", "isFit", "(II)Z"⟩, "NotYetSaid", [(0, 157)]),
  (10, 59, 5, 4, ⟨"NotYetSaid$Ride", "addAnswer", "(IIII)I"⟩, "NotYetSaid$Ride", [(3, 29)]),
  (10, 63, 5, 1, ⟨"NotYetSaid$Ride", "answerAt", "(I)LNotYetSaid$Answer;"⟩, "NotYetSaid$Ride", [(3, 28)]),
  (10, 85, 5, 1, ⟨"NotYetSaid$Ride", "holdsNow", "(LNotYetSaid$Answer;)I"⟩, "NotYetSaid$Ride", [(3, 39)]),
  (10, 89, 5, 1, ⟨"NotYetSaid$Ride", "canBeTold", "(LNotYetSaid$Answer;)Z"⟩, "NotYetSaid$Ride", [(3, 40)]),
  (10, 96, 0, 2, ⟨"NotYetSaid$Answer", "make", "(II)LNotYetSaid$Answer;"⟩, "NotYetSaid$Answer", [(0, 279)]),
  (10, 100, 6, 1, ⟨"NotYetSaid$Answer", "takeOver", "(LNotYetSaid$Answer;)V"⟩, "NotYetSaid$Answer", [(0, 280), (1, 280), (7, 280), (8, 280), (9, 280)]),
  (10, 104, 5, 1, ⟨"NotYetSaid$Ride", "putAnswer", "(LNotYetSaid$Answer;)V"⟩, "NotYetSaid$Ride", [(3, 30)]),
  (10, 107, 0, 2, ⟨"NotYetSaid", "isLeg", "(II)Z"⟩, "NotYetSaid", [(0, 158)]),
  (10, 110, 5, 2, ⟨"NotYetSaid$Ride", "addLeg", "(II)I"⟩, "NotYetSaid$Ride", [(3, 32)]),
  (10, 114, 5, 1, ⟨"NotYetSaid$Ride", "hasLeg", "(I)Z"⟩, "NotYetSaid$Ride", [(3, 31)]),
  (10, 118, 5, 1, ⟨"NotYetSaid$Ride", "minutesOf", "(I)I"⟩, "NotYetSaid$Ride", [(3, 34)]),
  (10, 122, 5, 1, ⟨"NotYetSaid$Ride", "moodOf", "(I)I"⟩, "NotYetSaid$Ride", [(3, 35)]),
  (10, 125, 5, 0, ⟨"NotYetSaid$Ride", "legNow", "()I"⟩, "NotYetSaid$Ride", [(3, 36)]),
  (10, 132, 5, 3, ⟨"NotYetSaid$Ride", "changeLeg", "(III)V"⟩, "NotYetSaid$Ride", [(3, 33)]),
  (10, 142, 5, 0, ⟨"NotYetSaid$Ride", "begin", "()V"⟩, "NotYetSaid$Ride", [(3, 38)])]
def pC_3 : List pCT := [
  (10, 148, 5, 2, ⟨"NotYetSaid$RuleReader", "read", "([BI)LNotYetSaid$Rules;"⟩, "NotYetSaid$RuleReader", [(4, 50)]),
  (10, 152, 5, 0, ⟨"NotYetSaid$RuleReader", "fault", "()I"⟩, "NotYetSaid$RuleReader", [(4, 51)]),
  (10, 164, 5, 1, ⟨"NotYetSaid$Ride", "tell", "(I)I"⟩, "NotYetSaid$Ride", [(3, 42)]),
  (10, 167, 5, 0, ⟨"NotYetSaid$Ride", "tellable", "()I"⟩, "NotYetSaid$Ride", [(3, 41)]),
  (10, 170, 5, 0, ⟨"NotYetSaid$Search", "shortest", "()I"⟩, "NotYetSaid$Search", [(6, 86)]),
  (10, 173, 0, 1, ⟨"NotYetSaid", "isPlace", "(I)Z"⟩, "NotYetSaid", [(0, 160)]),
  (10, 176, 5, 2, ⟨"NotYetSaid$Search", "walkFirst", "(II)V"⟩, "NotYetSaid$Search", [(6, 87)]),
  (10, 180, 5, 1, ⟨"NotYetSaid$Search", "toldAt", "(I)I"⟩, "NotYetSaid$Search", [(6, 93)]),
  (10, 183, 5, 0, ⟨"NotYetSaid$Search", "back", "()V"⟩, "NotYetSaid$Search", [(6, 91)]),
  (10, 186, 0, 1, ⟨"NotYetSaid", "isLength", "(I)Z"⟩, "NotYetSaid", [(0, 159)]),
  (10, 189, 1, 2, ⟨"NotYetSaid$Search", "arriving", "(LNotYetSaid$Ride;I)I"⟩, "NotYetSaid$Search", [(0, 79)]),
  (10, 193, 1, 2, ⟨"NotYetSaid$Search", "farthest", "(LNotYetSaid$Ride;I)I"⟩, "NotYetSaid$Search", [(0, 80)]),
  (10, 196, 1, 3, ⟨"NotYetSaid$Search", "kindest", "(LNotYetSaid$Ride;II)I"⟩, "NotYetSaid$Search", [(0, 81)]),
  (10, 200, 1, 3, ⟨"NotYetSaid$Search", "arrives", "(LNotYetSaid$Ride;II)Z"⟩, "NotYetSaid$Search", [(0, 78)]),
  (10, 207, 1, 2, ⟨"NotYetSaid$Search", "valueOf", "(LNotYetSaid$Ride;I)I"⟩, "NotYetSaid$Search", [(0, 82)]),
  (10, 210, 5, 1, ⟨"NotYetSaid$Search", "bestMove", "(I)I"⟩, "NotYetSaid$Search", [(6, 85)]),
  (10, 213, 5, 2, ⟨"NotYetSaid$Ride", "addReport", "(II)I"⟩, "NotYetSaid$Ride", [(3, 45)]),
  (10, 219, 5, 2, ⟨"NotYetSaid$Ride", "fits", "(II)Z"⟩, "NotYetSaid$Ride", [(3, 46)]),
  (10, 222, 5, 1, ⟨"NotYetSaid$Ride", "someFit", "(I)Z"⟩, "NotYetSaid$Ride", [(3, 47)]),
  (10, 228, 5, 0, ⟨"NotYetSaid$Ride", "drawn", "()I"⟩, "NotYetSaid$Ride", [(3, 44)]),
  (10, 231, 5, 0, ⟨"NotYetSaid$Search", "walkByLot", "()V"⟩, "NotYetSaid$Search", [(6, 88)]),
  (10, 234, 5, 0, ⟨"NotYetSaid$Ride", "isOver", "()Z"⟩, "NotYetSaid$Ride", [(3, 37)]),
  (10, 238, 5, 1, ⟨"NotYetSaid$Search", "minuteBehind", "(I)I"⟩, "NotYetSaid$Search", [(6, 94)]),
  (10, 241, 5, 1, ⟨"NotYetSaid$Search", "beliefBehind", "(I)I"⟩, "NotYetSaid$Search", [(6, 95)]),
  (10, 247, 5, 2, ⟨"NotYetSaid", "isRowItem", "(II)Z"⟩, "NotYetSaid", [(10, 161)]),
  (10, 250, 5, 1, ⟨"NotYetSaid$Search", "step", "(I)Z"⟩, "NotYetSaid$Search", [(6, 89)]),
  (10, 253, 5, 1, ⟨"NotYetSaid$Host", "isSheet", "(I)Z"⟩, "NotYetSaid$Host", [(2, 7)]),
  (10, 256, 5, 3, ⟨"NotYetSaid$Host", "makeRow", "(III)V"⟩, "NotYetSaid$Host", [(2, 9)]),
  (10, 259, 5, 1, ⟨"NotYetSaid$Host", "isMissing", "(I)Z"⟩, "NotYetSaid$Host", [(2, 8)]),
  (10, 262, 5, 2, ⟨"NotYetSaid$Host", "hasItem", "(II)Z"⟩, "NotYetSaid$Host", [(2, 11)]),
  (10, 265, 5, 3, ⟨"NotYetSaid$Host", "put", "(III)V"⟩, "NotYetSaid$Host", [(2, 13)]),
  (10, 268, 5, 2, ⟨"NotYetSaid$Host", "refusal", "(II)I"⟩, "NotYetSaid$Host", [(2, 10)]),
  (10, 271, 5, 2, ⟨"NotYetSaid$Host", "itemAt", "(II)I"⟩, "NotYetSaid$Host", [(2, 12)]),
  (10, 274, 11, 2, ⟨"java/lang/Math", "max", "(II)I"⟩, "java/lang/Math", []),
  (10, 279, 5, 1, ⟨"NotYetSaid$Host", "isShelf", "(I)Z"⟩, "NotYetSaid$Host", [(2, 15)]),
  (10, 282, 5, 2, ⟨"NotYetSaid$Host", "shelveAnswer", "(II)V"⟩, "NotYetSaid$Host", [(2, 17)]),
  (10, 285, 5, 2, ⟨"NotYetSaid$Host", "shelveRow", "(II)V"⟩, "NotYetSaid$Host", [(2, 18)]),
  (10, 288, 5, 1, ⟨"NotYetSaid$Host", "clearShelf", "(I)V"⟩, "NotYetSaid$Host", [(2, 16)]),
  (10, 292, 5, 1, ⟨"NotYetSaid$Host", "holdsRow", "(I)Z"⟩, "NotYetSaid$Host", [(2, 20)]),
  (10, 295, 5, 1, ⟨"NotYetSaid$Host", "sortOn", "(I)I"⟩, "NotYetSaid$Host", [(2, 21)])]
def pC_4 : List pCT := [
  (10, 298, 5, 1, ⟨"NotYetSaid$Host", "numberOn", "(I)I"⟩, "NotYetSaid$Host", [(2, 22)]),
  (10, 301, 5, 1, ⟨"NotYetSaid", "thingOn", "(I)LNotYetSaid$Answer;"⟩, "NotYetSaid", [(10, 162)]),
  (10, 304, 0, 2, ⟨"NotYetSaid", "isUnder", "(II)Z"⟩, "NotYetSaid", [(0, 163)]),
  (10, 307, 5, 0, ⟨"NotYetSaid$Host", "beginTrace", "()V"⟩, "NotYetSaid$Host", [(2, 23)]),
  (10, 310, 6, 2, ⟨"NotYetSaid$Answer", "says", "(ILNotYetSaid$Host;)I"⟩, "NotYetSaid$Answer", [(0, 281), (1, 281), (7, 98), (8, 102), (9, 281)]),
  (10, 314, 6, 2, ⟨"NotYetSaid$Answer", "sways", "(ILNotYetSaid$Host;)I"⟩, "NotYetSaid$Answer", [(0, 282), (1, 5), (7, 5), (8, 282), (9, 105)]),
  (10, 317, 6, 2, ⟨"NotYetSaid$Answer", "shares", "(ILNotYetSaid$Host;)I"⟩, "NotYetSaid$Answer", [(0, 2), (1, 283), (7, 283), (8, 283), (9, 106)]),
  (10, 320, 6, 2, ⟨"NotYetSaid$Answer", "tells", "(ILNotYetSaid$Host;)I"⟩, "NotYetSaid$Answer", [(0, 284), (1, 284), (7, 99), (8, 284), (9, 284)]),
  (10, 327, 5, 1, ⟨"NotYetSaid$Host", "bodyAt", "(I)I"⟩, "NotYetSaid$Host", [(2, 26)]),
  (10, 336, 5, 1, ⟨"NotYetSaid$Ride", "become", "(LNotYetSaid$Ride;)V"⟩, "NotYetSaid$Ride", [(3, 48)]),
  (10, 342, 5, 1, ⟨"NotYetSaid$Host", "holdsAnswer", "(I)Z"⟩, "NotYetSaid$Host", [(2, 19)]),
  (11, 1, 4, 0, ⟨"java/lang/Object", "<init>", "()V"⟩, "java/lang/Object", []),
  (11, 52, 0, 3, ⟨"NotYetSaidModel", "in", "(JJJ)Z"⟩, "NotYetSaidModel", [(0, 165)]),
  (11, 56, 0, 2, ⟨"NotYetSaidModel", "at", "(II)I"⟩, "NotYetSaidModel", [(0, 170)]),
  (11, 60, 5, 1, ⟨"NotYetSaidModel", "minutes", "(I)I"⟩, "NotYetSaidModel", [(11, 172)]),
  (11, 64, 5, 0, ⟨"NotYetSaidModel", "theEnd", "()I"⟩, "NotYetSaidModel", [(11, 173)]),
  (11, 68, 5, 0, ⟨"NotYetSaidModel", "legNow", "()I"⟩, "NotYetSaidModel", [(11, 175)]),
  (11, 75, 0, 2, ⟨"NotYetSaidModel", "isRoad", "(II)Z"⟩, "NotYetSaidModel", [(0, 177)]),
  (11, 79, 5, 1, ⟨"NotYetSaidModel", "isLeg", "(I)Z"⟩, "NotYetSaidModel", [(11, 167)]),
  (11, 91, 0, 1, ⟨"NotYetSaidModel", "isKind", "(I)Z"⟩, "NotYetSaidModel", [(0, 181)]),
  (11, 94, 0, 2, ⟨"NotYetSaidModel", "isPart", "(II)Z"⟩, "NotYetSaidModel", [(0, 182)]),
  (11, 97, 5, 0, ⟨"NotYetSaidModel", "moodNow", "()I"⟩, "NotYetSaidModel", [(11, 176)]),
  (11, 100, 5, 2, ⟨"NotYetSaidModel", "its", "(II)I"⟩, "NotYetSaidModel", [(11, 171)]),
  (11, 103, 5, 2, ⟨"NotYetSaidModel", "fact", "(II)I"⟩, "NotYetSaidModel", [(11, 185)]),
  (11, 106, 0, 3, ⟨"NotYetSaidModel", "isHolding", "(III)Z"⟩, "NotYetSaidModel", [(0, 186)]),
  (11, 110, 0, 2, ⟨"NotYetSaidModel", "isUnder", "(II)Z"⟩, "NotYetSaidModel", [(0, 184)]),
  (11, 113, 5, 3, ⟨"NotYetSaidModel", "isSo", "(III)Z"⟩, "NotYetSaidModel", [(11, 187)]),
  (11, 116, 5, 0, ⟨"NotYetSaidModel", "isOver", "()Z"⟩, "NotYetSaidModel", [(11, 174)]),
  (11, 120, 5, 1, ⟨"NotYetSaidModel", "isAnswer", "(I)Z"⟩, "NotYetSaidModel", [(11, 166)]),
  (11, 125, 5, 1, ⟨"NotYetSaidModel", "holdsNow", "(I)I"⟩, "NotYetSaidModel", [(11, 188)]),
  (11, 128, 5, 1, ⟨"NotYetSaidModel", "canTell", "(I)Z"⟩, "NotYetSaidModel", [(11, 189)]),
  (11, 131, 5, 1, ⟨"NotYetSaidModel", "tellsIt", "(I)I"⟩, "NotYetSaidModel", [(11, 196)]),
  (11, 138, 5, 2, ⟨"NotYetSaidModel", "arrives", "(II)Z"⟩, "NotYetSaidModel", [(11, 200)]),
  (11, 141, 5, 2, ⟨"NotYetSaidModel", "takesBack", "(II)V"⟩, "NotYetSaidModel", [(11, 197)]),
  (11, 145, 5, 0, ⟨"NotYetSaidModel", "shortest", "()I"⟩, "NotYetSaidModel", [(11, 201)]),
  (11, 152, 5, 1, ⟨"NotYetSaidModel", "waysOf", "(I)I"⟩, "NotYetSaidModel", [(11, 205)]),
  (11, 155, 0, 1, ⟨"NotYetSaidModel", "isMany", "(I)Z"⟩, "NotYetSaidModel", [(0, 204)]),
  (11, 158, 5, 1, ⟨"NotYetSaidModel", "farOf", "(I)I"⟩, "NotYetSaidModel", [(11, 207)]),
  (11, 161, 5, 1, ⟨"NotYetSaidModel", "kindOf", "(I)I"⟩, "NotYetSaidModel", [(11, 209)]),
  (11, 164, 5, 0, ⟨"NotYetSaidModel", "puts", "()V"⟩, "NotYetSaidModel", [(11, 168)])]
def pC_5 : List pCT := [
  (11, 167, 5, 2, ⟨"NotYetSaidModel", "kindStep", "(II)I"⟩, "NotYetSaidModel", [(11, 211)]),
  (11, 170, 5, 0, ⟨"NotYetSaidModel", "putsBack", "()V"⟩, "NotYetSaidModel", [(11, 169)]),
  (11, 173, 5, 1, ⟨"NotYetSaidModel", "valueOf", "(I)I"⟩, "NotYetSaidModel", [(11, 218)]),
  (11, 176, 5, 2, ⟨"NotYetSaidModel", "leadsTo", "(II)I"⟩, "NotYetSaidModel", [(11, 216)]),
  (11, 179, 0, 1, ⟨"NotYetSaidModel", "rank", "(I)I"⟩, "NotYetSaidModel", [(0, 217)]),
  (11, 193, 5, 1, ⟨"NotYetSaidModel", "findFits", "(I)V"⟩, "NotYetSaidModel", [(11, 223)]),
  (11, 197, 5, 0, ⟨"NotYetSaidModel", "can", "()I"⟩, "NotYetSaidModel", [(11, 199)]),
  (11, 201, 0, 1, ⟨"NotYetSaidModel", "ones", "(I)I"⟩, "NotYetSaidModel", [(0, 227)]),
  (11, 204, 5, 0, ⟨"NotYetSaidModel", "draw", "()I"⟩, "NotYetSaidModel", [(11, 228)]),
  (11, 210, 5, 2, ⟨"NotYetSaidModel", "isRow", "(II)Z"⟩, "NotYetSaidModel", [(11, 231)]),
  (11, 234, 5, 1, ⟨"NotYetSaidModel", "byteAt", "(I)I"⟩, "NotYetSaidModel", [(11, 236)]),
  (11, 237, 0, 1, ⟨"NotYetSaidModel", "isLetter", "(I)Z"⟩, "NotYetSaidModel", [(0, 237)]),
  (11, 240, 0, 1, ⟨"NotYetSaidModel", "isDigit", "(I)Z"⟩, "NotYetSaidModel", [(0, 238)]),
  (11, 247, 5, 0, ⟨"NotYetSaidModel", "token", "()V"⟩, "NotYetSaidModel", [(11, 239)]),
  (11, 257, 5, 1, ⟨"NotYetSaidModel", "wants", "(Z)V"⟩, "NotYetSaidModel", [(11, 240)]),
  (11, 261, 5, 0, ⟨"NotYetSaidModel", "word", "()J"⟩, "NotYetSaidModel", [(11, 241)]),
  (11, 290, 5, 0, ⟨"NotYetSaidModel", "factHere", "()I"⟩, "NotYetSaidModel", [(11, 244)]),
  (11, 293, 5, 1, ⟨"NotYetSaidModel", "writes", "(I)V"⟩, "NotYetSaidModel", [(11, 245)]),
  (11, 296, 5, 1, ⟨"NotYetSaidModel", "number", "(I)V"⟩, "NotYetSaidModel", [(11, 242)]),
  (11, 299, 5, 0, ⟨"NotYetSaidModel", "valueHere", "()V"⟩, "NotYetSaidModel", [(11, 246)]),
  (11, 307, 5, 0, ⟨"NotYetSaidModel", "condition", "()V"⟩, "NotYetSaidModel", [(11, 250)]),
  (11, 310, 5, 0, ⟨"NotYetSaidModel", "comparison", "()V"⟩, "NotYetSaidModel", [(11, 247)]),
  (11, 313, 5, 0, ⟨"NotYetSaidModel", "one", "()V"⟩, "NotYetSaidModel", [(11, 248)]),
  (11, 318, 5, 0, ⟨"NotYetSaidModel", "all", "()V"⟩, "NotYetSaidModel", [(11, 249)]),
  (11, 323, 5, 0, ⟨"NotYetSaidModel", "kindHere", "()I"⟩, "NotYetSaidModel", [(11, 243)]),
  (11, 334, 5, 0, ⟨"NotYetSaidModel", "rule", "()V"⟩, "NotYetSaidModel", [(11, 251)]),
  (11, 337, 0, 1, ⟨"NotYetSaidModel", "isOne", "(I)Z"⟩, "NotYetSaidModel", [(0, 253)]),
  (11, 342, 0, 2, ⟨"NotYetSaidModel", "narrowed", "(II)I"⟩, "NotYetSaidModel", [(0, 255)]),
  (11, 345, 5, 2, ⟨"NotYetSaidModel", "wrong", "(II)I"⟩, "NotYetSaidModel", [(11, 257)]),
  (11, 350, 5, 2, ⟨"NotYetSaidModel", "wrongItems", "(II)I"⟩, "NotYetSaidModel", [(11, 259)]),
  (11, 353, 5, 2, ⟨"NotYetSaidModel", "isItem", "(IJ)Z"⟩, "NotYetSaidModel", [(11, 260)]),
  (11, 357, 5, 1, ⟨"NotYetSaidModel", "say", "(I)I"⟩, "NotYetSaidModel", [(11, 198)]),
  (11, 364, 5, 1, ⟨"NotYetSaidModel", "onShelf", "(I)I"⟩, "NotYetSaidModel", [(11, 264)]),
  (11, 376, 5, 1, ⟨"NotYetSaidModel", "runs", "(I)V"⟩, "NotYetSaidModel", [(11, 266)]),
  (11, 382, 5, 1, ⟨"NotYetSaidModel", "says", "(I)I"⟩, "NotYetSaidModel", [(11, 267)]),
  (11, 388, 5, 1, ⟨"NotYetSaidModel", "parts", "(I)I"⟩, "NotYetSaidModel", [(11, 269)]),
  (11, 391, 5, 1, ⟨"NotYetSaidModel", "sways", "(I)I"⟩, "NotYetSaidModel", [(11, 268)]),
  (11, 394, 5, 1, ⟨"NotYetSaidModel", "shares", "(I)I"⟩, "NotYetSaidModel", [(11, 270)]),
  (11, 397, 5, 1, ⟨"NotYetSaidModel", "tells", "(I)I"⟩, "NotYetSaidModel", [(11, 271)]),
  (11, 400, 5, 0, ⟨"NotYetSaidModel", "traced", "()I"⟩, "NotYetSaidModel", [(11, 273)])]
def pC_6 : List pCT := [
  (12, 1, 4, 0, ⟨"java/lang/Object", "<init>", "()V"⟩, "java/lang/Object", []),
  (12, 18, 2, 1, ⟨"NotYetSaid$Soon", "<init>", "(I)V"⟩, "NotYetSaid$Soon", [(0, 100)]),
  (12, 23, 2, 2, ⟨"NotYetSaid$Game", "<init>", "(II)V"⟩, "NotYetSaid$Game", [(0, 3)]),
  (12, 28, 2, 1, ⟨"NotYetSaid$Song", "<init>", "(I)V"⟩, "NotYetSaid$Song", [(0, 96)]),
  (12, 31, 2, 2, ⟨"NotYetSaid$Biscuit", "<init>", "(II)V"⟩, "NotYetSaid$Biscuit", [(0, 0)]),
  (12, 34, 2, 1, ⟨"NotYetSaid$Stop", "<init>", "(I)V"⟩, "NotYetSaid$Stop", [(0, 103)]),
  (12, 47, 5, 1, ⟨"NotYetSaid$Host", "began", "(I)V"⟩, "NotYetSaid$Host", [(2, 24)]),
  (12, 52, 6, 2, ⟨"NotYetSaid$Answer", "says", "(ILNotYetSaid$Host;)I"⟩, "NotYetSaid$Answer", [(0, 281), (1, 281), (7, 98), (8, 102), (9, 281)]),
  (12, 56, 5, 0, ⟨"NotYetSaid$Host", "partBy0", "()V"⟩, "NotYetSaid$Host", [(2, 25)]),
  (12, 59, 6, 2, ⟨"NotYetSaid$Answer", "sways", "(ILNotYetSaid$Host;)I"⟩, "NotYetSaid$Answer", [(0, 282), (1, 5), (7, 5), (8, 282), (9, 105)]),
  (13, 9, 2, 0, ⟨"NotYetSaid", "<init>", "()V"⟩, "NotYetSaid", [(0, 107)]),
  (13, 12, 2, 0, ⟨"NotYetSaidModel", "<init>", "()V"⟩, "NotYetSaidModel", [(0, 164)]),
  (13, 13, 5, 4, ⟨"NotYetSaid", "answer", "(IIII)I"⟩, "NotYetSaid", [(10, 108)]),
  (13, 17, 5, 4, ⟨"NotYetSaidModel", "answer", "(IIII)I"⟩, "NotYetSaidModel", [(11, 183)]),
  (13, 18, 5, 2, ⟨"NotYetSaid", "answerOf", "(II)I"⟩, "NotYetSaid", [(10, 109)]),
  (13, 22, 5, 2, ⟨"NotYetSaidModel", "answerOf", "(II)I"⟩, "NotYetSaidModel", [(11, 190)]),
  (13, 23, 5, 3, ⟨"NotYetSaid", "change", "(III)I"⟩, "NotYetSaid", [(10, 110)]),
  (13, 27, 5, 3, ⟨"NotYetSaidModel", "change", "(III)I"⟩, "NotYetSaidModel", [(11, 191)]),
  (13, 28, 5, 2, ⟨"NotYetSaid", "remake", "(II)I"⟩, "NotYetSaid", [(10, 111)]),
  (13, 31, 5, 2, ⟨"NotYetSaidModel", "remake", "(II)I"⟩, "NotYetSaidModel", [(11, 192)]),
  (13, 32, 5, 2, ⟨"NotYetSaid", "leg", "(II)I"⟩, "NotYetSaid", [(10, 112)]),
  (13, 35, 5, 2, ⟨"NotYetSaidModel", "leg", "(II)I"⟩, "NotYetSaidModel", [(11, 178)]),
  (13, 36, 5, 2, ⟨"NotYetSaid", "legOf", "(II)I"⟩, "NotYetSaid", [(10, 113)]),
  (13, 39, 5, 2, ⟨"NotYetSaidModel", "legOf", "(II)I"⟩, "NotYetSaidModel", [(11, 179)]),
  (13, 40, 5, 3, ⟨"NotYetSaid", "drives", "(III)I"⟩, "NotYetSaid", [(10, 114)]),
  (13, 43, 5, 3, ⟨"NotYetSaidModel", "drives", "(III)I"⟩, "NotYetSaidModel", [(11, 180)]),
  (13, 44, 5, 1, ⟨"NotYetSaid", "belief", "(I)I"⟩, "NotYetSaid", [(10, 115)]),
  (13, 48, 5, 1, ⟨"NotYetSaidModel", "belief", "(I)I"⟩, "NotYetSaidModel", [(11, 193)]),
  (13, 49, 5, 1, ⟨"NotYetSaid", "state", "(I)I"⟩, "NotYetSaid", [(10, 116)]),
  (13, 52, 5, 1, ⟨"NotYetSaidModel", "state", "(I)I"⟩, "NotYetSaidModel", [(11, 194)]),
  (13, 53, 5, 0, ⟨"NotYetSaid", "anew", "()I"⟩, "NotYetSaid", [(10, 117)]),
  (13, 57, 5, 0, ⟨"NotYetSaidModel", "anew", "()I"⟩, "NotYetSaidModel", [(11, 195)]),
  (13, 60, 5, 2, ⟨"NotYetSaid", "feed", "(JI)I"⟩, "NotYetSaid", [(10, 118)]),
  (13, 64, 5, 2, ⟨"NotYetSaidModel", "feed", "(JI)I"⟩, "NotYetSaidModel", [(11, 235)]),
  (13, 65, 5, 0, ⟨"NotYetSaid", "rules", "()I"⟩, "NotYetSaid", [(10, 119)]),
  (13, 68, 5, 0, ⟨"NotYetSaidModel", "rules", "()I"⟩, "NotYetSaidModel", [(11, 252)]),
  (13, 69, 5, 1, ⟨"NotYetSaid", "say", "(I)I"⟩, "NotYetSaid", [(10, 120)]),
  (13, 72, 5, 1, ⟨"NotYetSaidModel", "say", "(I)I"⟩, "NotYetSaidModel", [(11, 198)]),
  (13, 73, 5, 0, ⟨"NotYetSaid", "can", "()I"⟩, "NotYetSaid", [(10, 121)]),
  (13, 76, 5, 0, ⟨"NotYetSaidModel", "can", "()I"⟩, "NotYetSaidModel", [(11, 199)])]
def pC_7 : List pCT := [
  (13, 77, 5, 0, ⟨"NotYetSaid", "fewest", "()I"⟩, "NotYetSaid", [(10, 122)]),
  (13, 80, 5, 0, ⟨"NotYetSaidModel", "fewest", "()I"⟩, "NotYetSaidModel", [(11, 202)]),
  (13, 81, 5, 1, ⟨"NotYetSaid", "ith", "(I)I"⟩, "NotYetSaid", [(10, 123)]),
  (13, 84, 5, 1, ⟨"NotYetSaidModel", "ith", "(I)I"⟩, "NotYetSaidModel", [(11, 203)]),
  (13, 85, 5, 1, ⟨"NotYetSaid", "ways", "(I)I"⟩, "NotYetSaid", [(10, 124)]),
  (13, 88, 5, 1, ⟨"NotYetSaidModel", "ways", "(I)I"⟩, "NotYetSaidModel", [(11, 206)]),
  (13, 89, 5, 1, ⟨"NotYetSaid", "far", "(I)I"⟩, "NotYetSaid", [(10, 125)]),
  (13, 92, 5, 1, ⟨"NotYetSaidModel", "far", "(I)I"⟩, "NotYetSaidModel", [(11, 208)]),
  (13, 93, 5, 1, ⟨"NotYetSaid", "kind", "(I)I"⟩, "NotYetSaid", [(10, 126)]),
  (13, 96, 5, 1, ⟨"NotYetSaidModel", "kind", "(I)I"⟩, "NotYetSaidModel", [(11, 210)]),
  (13, 97, 5, 2, ⟨"NotYetSaid", "kindly", "(II)I"⟩, "NotYetSaid", [(10, 127)]),
  (13, 100, 5, 2, ⟨"NotYetSaidModel", "kindly", "(II)I"⟩, "NotYetSaidModel", [(11, 212)]),
  (13, 101, 5, 0, ⟨"NotYetSaid", "needs", "()I"⟩, "NotYetSaid", [(10, 128)]),
  (13, 104, 5, 0, ⟨"NotYetSaidModel", "needs", "()I"⟩, "NotYetSaidModel", [(11, 213)]),
  (13, 105, 5, 0, ⟨"NotYetSaid", "more", "()I"⟩, "NotYetSaid", [(10, 129)]),
  (13, 108, 5, 0, ⟨"NotYetSaidModel", "more", "()I"⟩, "NotYetSaidModel", [(11, 214)]),
  (13, 109, 5, 1, ⟨"NotYetSaid", "beliefFor", "(I)I"⟩, "NotYetSaid", [(10, 130)]),
  (13, 112, 5, 1, ⟨"NotYetSaidModel", "beliefFor", "(I)I"⟩, "NotYetSaidModel", [(11, 215)]),
  (13, 113, 5, 1, ⟨"NotYetSaid", "game", "(I)I"⟩, "NotYetSaid", [(10, 131)]),
  (13, 116, 5, 1, ⟨"NotYetSaidModel", "game", "(I)I"⟩, "NotYetSaidModel", [(11, 219)]),
  (13, 117, 5, 1, ⟨"NotYetSaid", "play", "(I)I"⟩, "NotYetSaid", [(10, 132)]),
  (13, 120, 5, 1, ⟨"NotYetSaidModel", "play", "(I)I"⟩, "NotYetSaidModel", [(11, 220)]),
  (13, 121, 5, 3, ⟨"NotYetSaid", "report", "(III)I"⟩, "NotYetSaid", [(10, 133)]),
  (13, 124, 5, 3, ⟨"NotYetSaidModel", "report", "(III)I"⟩, "NotYetSaidModel", [(11, 221)]),
  (13, 125, 5, 0, ⟨"NotYetSaid", "forget", "()I"⟩, "NotYetSaid", [(10, 134)]),
  (13, 128, 5, 0, ⟨"NotYetSaidModel", "forget", "()I"⟩, "NotYetSaidModel", [(11, 222)]),
  (13, 129, 5, 1, ⟨"NotYetSaid", "span", "(I)I"⟩, "NotYetSaid", [(10, 135)]),
  (13, 132, 5, 1, ⟨"NotYetSaidModel", "span", "(I)I"⟩, "NotYetSaidModel", [(11, 224)]),
  (13, 133, 5, 0, ⟨"NotYetSaid", "liar", "()I"⟩, "NotYetSaid", [(10, 136)]),
  (13, 136, 5, 0, ⟨"NotYetSaidModel", "liar", "()I"⟩, "NotYetSaidModel", [(11, 225)]),
  (13, 137, 5, 1, ⟨"NotYetSaid", "seed", "(I)I"⟩, "NotYetSaid", [(10, 137)]),
  (13, 140, 5, 1, ⟨"NotYetSaidModel", "seed", "(I)I"⟩, "NotYetSaidModel", [(11, 226)]),
  (13, 141, 5, 0, ⟨"NotYetSaid", "draw", "()I"⟩, "NotYetSaid", [(10, 138)]),
  (13, 144, 5, 0, ⟨"NotYetSaidModel", "draw", "()I"⟩, "NotYetSaidModel", [(11, 228)]),
  (13, 145, 5, 1, ⟨"NotYetSaid", "often", "(I)I"⟩, "NotYetSaid", [(10, 139)]),
  (13, 148, 5, 1, ⟨"NotYetSaidModel", "often", "(I)I"⟩, "NotYetSaidModel", [(11, 229)]),
  (13, 149, 5, 0, ⟨"NotYetSaid", "prove", "()I"⟩, "NotYetSaid", [(10, 140)]),
  (13, 152, 5, 0, ⟨"NotYetSaidModel", "prove", "()I"⟩, "NotYetSaidModel", [(11, 230)]),
  (13, 153, 5, 2, ⟨"NotYetSaid", "row", "(II)I"⟩, "NotYetSaid", [(10, 141)]),
  (13, 156, 5, 2, ⟨"NotYetSaidModel", "row", "(II)I"⟩, "NotYetSaidModel", [(11, 232)])]
def pC_8 : List pCT := [
  (13, 157, 5, 3, ⟨"NotYetSaid", "alterRow", "(III)I"⟩, "NotYetSaid", [(10, 142)]),
  (13, 160, 5, 3, ⟨"NotYetSaidModel", "alterRow", "(III)I"⟩, "NotYetSaidModel", [(11, 233)]),
  (13, 161, 5, 0, ⟨"NotYetSaid", "judge", "()I"⟩, "NotYetSaid", [(10, 143)]),
  (13, 164, 5, 0, ⟨"NotYetSaidModel", "judge", "()I"⟩, "NotYetSaidModel", [(11, 234)]),
  (13, 165, 5, 3, ⟨"NotYetSaid", "sheet", "(III)I"⟩, "NotYetSaid", [(10, 144)]),
  (13, 168, 5, 3, ⟨"NotYetSaidModel", "sheet", "(III)I"⟩, "NotYetSaidModel", [(11, 254)]),
  (13, 169, 5, 3, ⟨"NotYetSaid", "write", "(III)I"⟩, "NotYetSaid", [(10, 145)]),
  (13, 172, 5, 3, ⟨"NotYetSaidModel", "write", "(III)I"⟩, "NotYetSaidModel", [(11, 256)]),
  (13, 173, 5, 3, ⟨"NotYetSaid", "item", "(III)I"⟩, "NotYetSaid", [(10, 146)]),
  (13, 176, 5, 3, ⟨"NotYetSaidModel", "item", "(III)I"⟩, "NotYetSaidModel", [(11, 258)]),
  (13, 177, 5, 3, ⟨"NotYetSaid", "tellAll", "(III)I"⟩, "NotYetSaid", [(10, 147)]),
  (13, 180, 5, 3, ⟨"NotYetSaidModel", "tellAll", "(III)I"⟩, "NotYetSaidModel", [(11, 261)]),
  (13, 181, 5, 3, ⟨"NotYetSaid", "wouldCost", "(III)I"⟩, "NotYetSaid", [(10, 148)]),
  (13, 184, 5, 3, ⟨"NotYetSaidModel", "wouldCost", "(III)I"⟩, "NotYetSaidModel", [(11, 262)]),
  (13, 185, 5, 3, ⟨"NotYetSaid", "shelf", "(III)I"⟩, "NotYetSaid", [(10, 149)]),
  (13, 188, 5, 3, ⟨"NotYetSaidModel", "shelf", "(III)I"⟩, "NotYetSaidModel", [(11, 263)]),
  (13, 189, 5, 2, ⟨"NotYetSaid", "taken", "(II)I"⟩, "NotYetSaid", [(10, 150)]),
  (13, 192, 5, 2, ⟨"NotYetSaidModel", "taken", "(II)I"⟩, "NotYetSaidModel", [(11, 265)]),
  (13, 193, 5, 3, ⟨"NotYetSaid", "act", "(III)I"⟩, "NotYetSaid", [(10, 151)]),
  (13, 196, 5, 3, ⟨"NotYetSaidModel", "act", "(III)I"⟩, "NotYetSaidModel", [(11, 272)]),
  (13, 197, 5, 1, ⟨"NotYetSaid", "trace", "(I)I"⟩, "NotYetSaid", [(10, 152)]),
  (13, 200, 5, 1, ⟨"NotYetSaidModel", "trace", "(I)I"⟩, "NotYetSaidModel", [(11, 274)]),
  (13, 201, 5, 1, ⟨"NotYetSaid", "many", "(I)I"⟩, "NotYetSaid", [(10, 153)]),
  (13, 204, 5, 1, ⟨"NotYetSaidModel", "many", "(I)I"⟩, "NotYetSaidModel", [(11, 275)]),
  (13, 205, 5, 0, ⟨"NotYetSaid", "keep", "()I"⟩, "NotYetSaid", [(10, 154)]),
  (13, 208, 5, 0, ⟨"NotYetSaidModel", "keep", "()I"⟩, "NotYetSaidModel", [(11, 276)]),
  (13, 209, 5, 0, ⟨"NotYetSaid", "again", "()I"⟩, "NotYetSaid", [(10, 155)]),
  (13, 212, 5, 0, ⟨"NotYetSaidModel", "again", "()I"⟩, "NotYetSaidModel", [(11, 277)])]
def pC (j : Nat) : Option pCT := (bif Nat.blt j 160 then (bif Nat.blt j 80 then (bif Nat.blt j 40 then pC_0[j - 0]? else pC_1[j - 40]?) else (bif Nat.blt j 120 then pC_2[j - 80]? else pC_3[j - 120]?)) else (bif Nat.blt j 240 then (bif Nat.blt j 200 then pC_4[j - 160]? else pC_5[j - 200]?) else (bif Nat.blt j 280 then pC_6[j - 240]? else (bif Nat.blt j 320 then pC_7[j - 280]? else pC_8[j - 320]?))))
/-! methods: instructions, bytes, name, locals, answer, own class, has numbers of two words -/
abbrev pMT : Type := (Nat → Option (Instr × Nat)) × ByteArray × MethodName × Nat × Option FieldType × Nat × Bool × Bool
def pR0 : pMT := (pI0, prog_3_method_1_code, ⟨"NotYetSaid$Biscuit", "<init>", "(II)V"⟩, 3, (Option.none : Option FieldType), 0, false, true)
def pR1 : pMT := (pI1, prog_3_method_2_code, ⟨"NotYetSaid$Biscuit", "lasts", "(II)I"⟩, 3, (Option.some FieldType.int), 0, false, false)
def pR2 : pMT := (pI2, prog_3_method_3_code, ⟨"NotYetSaid$Biscuit", "shares", "(ILNotYetSaid$Host;)I"⟩, 3, (Option.some FieldType.int), 0, false, false)
def pR3 : pMT := (pI3, prog_4_method_1_code, ⟨"NotYetSaid$Game", "<init>", "(II)V"⟩, 3, (Option.none : Option FieldType), 1, false, true)
def pR4 : pMT := (pI4, prog_4_method_2_code, ⟨"NotYetSaid$Game", "lasts", "(II)I"⟩, 3, (Option.some FieldType.int), 1, false, false)
def pR5 : pMT := (pI5, prog_4_method_3_code, ⟨"NotYetSaid$Game", "sways", "(ILNotYetSaid$Host;)I"⟩, 3, (Option.some FieldType.int), 1, false, false)
def pR6 : pMT := (pI6, prog_5_method_1_code, ⟨"NotYetSaid$Host", "<init>", "()V"⟩, 1, (Option.none : Option FieldType), 2, false, true)
def pR7 : pMT := (pI7, prog_5_method_2_code, ⟨"NotYetSaid$Host", "isSheet", "(I)Z"⟩, 2, (Option.some FieldType.boolean), 2, false, false)
def pR8 : pMT := (pI8, prog_5_method_3_code, ⟨"NotYetSaid$Host", "isMissing", "(I)Z"⟩, 2, (Option.some FieldType.boolean), 2, false, false)
def pR9 : pMT := (pI9, prog_5_method_4_code, ⟨"NotYetSaid$Host", "makeRow", "(III)V"⟩, 4, (Option.none : Option FieldType), 2, false, false)
def pR10 : pMT := (pI10, prog_5_method_5_code, ⟨"NotYetSaid$Host", "refusal", "(II)I"⟩, 3, (Option.some FieldType.int), 2, false, false)
def pR11 : pMT := (pI11, prog_5_method_6_code, ⟨"NotYetSaid$Host", "hasItem", "(II)Z"⟩, 3, (Option.some FieldType.boolean), 2, false, false)
def pR12 : pMT := (pI12, prog_5_method_7_code, ⟨"NotYetSaid$Host", "itemAt", "(II)I"⟩, 3, (Option.some FieldType.int), 2, false, false)
def pR13 : pMT := (pI13, prog_5_method_8_code, ⟨"NotYetSaid$Host", "put", "(III)V"⟩, 4, (Option.none : Option FieldType), 2, false, false)
def pR14 : pMT := (pI14, prog_5_method_9_code, ⟨"NotYetSaid$Host", "narrowed", "(II)I"⟩, 2, (Option.some FieldType.int), 2, false, false)
def pR15 : pMT := (pI15, prog_5_method_10_code, ⟨"NotYetSaid$Host", "isShelf", "(I)Z"⟩, 2, (Option.some FieldType.boolean), 2, false, false)
def pR16 : pMT := (pI16, prog_5_method_11_code, ⟨"NotYetSaid$Host", "clearShelf", "(I)V"⟩, 2, (Option.none : Option FieldType), 2, false, false)
def pR17 : pMT := (pI17, prog_5_method_12_code, ⟨"NotYetSaid$Host", "shelveAnswer", "(II)V"⟩, 3, (Option.none : Option FieldType), 2, false, false)
def pR18 : pMT := (pI18, prog_5_method_13_code, ⟨"NotYetSaid$Host", "shelveRow", "(II)V"⟩, 3, (Option.none : Option FieldType), 2, false, false)
def pR19 : pMT := (pI19, prog_5_method_14_code, ⟨"NotYetSaid$Host", "holdsAnswer", "(I)Z"⟩, 2, (Option.some FieldType.boolean), 2, false, false)
def pR20 : pMT := (pI20, prog_5_method_15_code, ⟨"NotYetSaid$Host", "holdsRow", "(I)Z"⟩, 2, (Option.some FieldType.boolean), 2, false, false)
def pR21 : pMT := (pI21, prog_5_method_16_code, ⟨"NotYetSaid$Host", "sortOn", "(I)I"⟩, 2, (Option.some FieldType.int), 2, false, false)
def pR22 : pMT := (pI22, prog_5_method_17_code, ⟨"NotYetSaid$Host", "numberOn", "(I)I"⟩, 2, (Option.some FieldType.int), 2, false, false)
def pR23 : pMT := (pI23, prog_5_method_18_code, ⟨"NotYetSaid$Host", "beginTrace", "()V"⟩, 1, (Option.none : Option FieldType), 2, false, false)
def pR24 : pMT := (pI24, prog_5_method_19_code, ⟨"NotYetSaid$Host", "began", "(I)V"⟩, 2, (Option.none : Option FieldType), 2, false, false)
def pR25 : pMT := (pI25, prog_5_method_20_code, ⟨"NotYetSaid$Host", "partBy0", "()V"⟩, 1, (Option.none : Option FieldType), 2, false, false)
def pR26 : pMT := (pI26, prog_5_method_21_code, ⟨"NotYetSaid$Host", "bodyAt", "(I)I"⟩, 2, (Option.some FieldType.int), 2, false, false)
def pR27 : pMT := (pI27, prog_6_method_1_code, ⟨"NotYetSaid$Ride", "<init>", "()V"⟩, 1, (Option.none : Option FieldType), 3, false, true)
def pR28 : pMT := (pI28, prog_6_method_2_code, ⟨"NotYetSaid$Ride", "answerAt", "(I)LNotYetSaid$Answer;"⟩, 2, (Option.some (FieldType.object "NotYetSaid$Answer")), 3, false, false)
def pR29 : pMT := (pI29, prog_6_method_3_code, ⟨"NotYetSaid$Ride", "addAnswer", "(IIII)I"⟩, 6, (Option.some FieldType.int), 3, false, false)
def pR30 : pMT := (pI30, prog_6_method_4_code, ⟨"NotYetSaid$Ride", "putAnswer", "(LNotYetSaid$Answer;)V"⟩, 2, (Option.none : Option FieldType), 3, false, false)
def pR31 : pMT := (pI31, prog_6_method_5_code, ⟨"NotYetSaid$Ride", "hasLeg", "(I)Z"⟩, 2, (Option.some FieldType.boolean), 3, false, false)
def pR32 : pMT := (pI32, prog_6_method_6_code, ⟨"NotYetSaid$Ride", "addLeg", "(II)I"⟩, 4, (Option.some FieldType.int), 3, false, false)
def pR33 : pMT := (pI33, prog_6_method_7_code, ⟨"NotYetSaid$Ride", "changeLeg", "(III)V"⟩, 4, (Option.none : Option FieldType), 3, false, false)
def pR34 : pMT := (pI34, prog_6_method_8_code, ⟨"NotYetSaid$Ride", "minutesOf", "(I)I"⟩, 2, (Option.some FieldType.int), 3, false, false)
def pR35 : pMT := (pI35, prog_6_method_9_code, ⟨"NotYetSaid$Ride", "moodOf", "(I)I"⟩, 2, (Option.some FieldType.int), 3, false, false)
def pR36 : pMT := (pI36, prog_6_method_10_code, ⟨"NotYetSaid$Ride", "legNow", "()I"⟩, 3, (Option.some FieldType.int), 3, false, false)
def pR37 : pMT := (pI37, prog_6_method_11_code, ⟨"NotYetSaid$Ride", "isOver", "()Z"⟩, 1, (Option.some FieldType.boolean), 3, false, false)
def pR38 : pMT := (pI38, prog_6_method_12_code, ⟨"NotYetSaid$Ride", "begin", "()V"⟩, 3, (Option.none : Option FieldType), 3, false, false)
def pR39 : pMT := (pI39, prog_6_method_13_code, ⟨"NotYetSaid$Ride", "holdsNow", "(LNotYetSaid$Answer;)I"⟩, 5, (Option.some FieldType.int), 3, false, false)
def pR40 : pMT := (pI40, prog_6_method_14_code, ⟨"NotYetSaid$Ride", "canBeTold", "(LNotYetSaid$Answer;)Z"⟩, 2, (Option.some FieldType.boolean), 3, false, false)
def pR41 : pMT := (pI41, prog_6_method_15_code, ⟨"NotYetSaid$Ride", "tellable", "()I"⟩, 4, (Option.some FieldType.int), 3, false, false)
def pR42 : pMT := (pI42, prog_6_method_16_code, ⟨"NotYetSaid$Ride", "tell", "(I)I"⟩, 4, (Option.some FieldType.int), 3, false, false)
def pR43 : pMT := (pI43, prog_6_method_17_code, ⟨"NotYetSaid$Ride", "untell", "(II)V"⟩, 4, (Option.none : Option FieldType), 3, false, false)
def pR44 : pMT := (pI44, prog_6_method_18_code, ⟨"NotYetSaid$Ride", "drawn", "()I"⟩, 5, (Option.some FieldType.int), 3, false, false)
def pR45 : pMT := (pI45, prog_6_method_19_code, ⟨"NotYetSaid$Ride", "addReport", "(II)I"⟩, 3, (Option.some FieldType.int), 3, false, false)
def pR46 : pMT := (pI46, prog_6_method_20_code, ⟨"NotYetSaid$Ride", "fits", "(II)Z"⟩, 5, (Option.some FieldType.boolean), 3, false, false)
def pR47 : pMT := (pI47, prog_6_method_21_code, ⟨"NotYetSaid$Ride", "someFit", "(I)Z"⟩, 3, (Option.some FieldType.boolean), 3, false, false)
def pR48 : pMT := (pI48, prog_6_method_22_code, ⟨"NotYetSaid$Ride", "become", "(LNotYetSaid$Ride;)V"⟩, 5, (Option.none : Option FieldType), 3, false, false)
def pR49 : pMT := (pI49, prog_7_method_1_code, ⟨"NotYetSaid$RuleReader", "<init>", "()V"⟩, 1, (Option.none : Option FieldType), 4, false, true)
def pR50 : pMT := (pI50, prog_7_method_2_code, ⟨"NotYetSaid$RuleReader", "read", "([BI)LNotYetSaid$Rules;"⟩, 4, (Option.some (FieldType.object "NotYetSaid$Rules")), 4, false, false)
def pR51 : pMT := (pI51, prog_7_method_3_code, ⟨"NotYetSaid$RuleReader", "fault", "()I"⟩, 1, (Option.some FieldType.int), 4, false, false)
def pR52 : pMT := (pI52, prog_7_method_4_code, ⟨"NotYetSaid$RuleReader", "readRule", "()Z"⟩, 2, (Option.some FieldType.boolean), 4, false, false)
def pR53 : pMT := (pI53, prog_7_method_5_code, ⟨"NotYetSaid$RuleReader", "readDeed", "(I)Z"⟩, 4, (Option.some FieldType.boolean), 4, false, false)
def pR54 : pMT := (pI54, prog_7_method_6_code, ⟨"NotYetSaid$RuleReader", "readCondition", "(I)Z"⟩, 5, (Option.some FieldType.boolean), 4, false, false)
def pR55 : pMT := (pI55, prog_7_method_7_code, ⟨"NotYetSaid$RuleReader", "readOne", "(I)Z"⟩, 4, (Option.some FieldType.boolean), 4, false, false)
def pR56 : pMT := (pI56, prog_7_method_8_code, ⟨"NotYetSaid$RuleReader", "readGroup", "(I)Z"⟩, 2, (Option.some FieldType.boolean), 4, false, false)
def pR57 : pMT := (pI57, prog_7_method_9_code, ⟨"NotYetSaid$RuleReader", "readComparison", "()Z"⟩, 3, (Option.some FieldType.boolean), 4, false, false)
def pR58 : pMT := (pI58, prog_7_method_10_code, ⟨"NotYetSaid$RuleReader", "isValue", "(I)Z"⟩, 1, (Option.some FieldType.boolean), 4, false, false)
def pR59 : pMT := (pI59, prog_7_method_11_code, ⟨"NotYetSaid$RuleReader", "token", "()I"⟩, 1, (Option.some FieldType.int), 4, false, false)
def pR60 : pMT := (pI60, prog_7_method_12_code, ⟨"NotYetSaid$RuleReader", "value", "()I"⟩, 1, (Option.some FieldType.int), 4, false, false)
def pR61 : pMT := (pI61, prog_7_method_13_code, ⟨"NotYetSaid$RuleReader", "scan", "()V"⟩, 4, (Option.none : Option FieldType), 4, false, false)
def pR62 : pMT := (pI62, prog_7_method_14_code, ⟨"NotYetSaid$RuleReader", "byteAt", "(I)I"⟩, 2, (Option.some FieldType.int), 4, false, false)
def pR63 : pMT := (pI63, prog_7_method_15_code, ⟨"NotYetSaid$RuleReader", "isLetter", "(I)Z"⟩, 1, (Option.some FieldType.boolean), 4, false, false)
def pR64 : pMT := (pI64, prog_7_method_16_code, ⟨"NotYetSaid$RuleReader", "isDigit", "(I)Z"⟩, 1, (Option.some FieldType.boolean), 4, false, false)
def pR65 : pMT := (pI65, prog_7_method_17_code, ⟨"NotYetSaid$RuleReader", "endOfRun", "(I)I"⟩, 5, (Option.some FieldType.int), 4, false, false)
def pR66 : pMT := (pI66, prog_7_method_18_code, ⟨"NotYetSaid$RuleReader", "sortOf", "(II)I"⟩, 5, (Option.some FieldType.int), 4, false, false)
def pR67 : pMT := (pI67, prog_7_method_19_code, ⟨"NotYetSaid$RuleReader", "wordOf", "(II)I"⟩, 6, (Option.some FieldType.int), 4, false, false)
def pR68 : pMT := (pI68, prog_7_method_20_code, ⟨"NotYetSaid$RuleReader", "isSame", "(III)Z"⟩, 6, (Option.some FieldType.boolean), 4, false, false)
def pR69 : pMT := (pI69, prog_7_method_21_code, ⟨"NotYetSaid$RuleReader", "valueOf", "(III)I"⟩, 6, (Option.some FieldType.int), 4, false, false)
def pR70 : pMT := (pI70, prog_8_method_1_code, ⟨"NotYetSaid$Rules", "<init>", "()V"⟩, 1, (Option.none : Option FieldType), 5, false, true)
def pR71 : pMT := (pI71, prog_8_method_2_code, ⟨"NotYetSaid$Rules", "addStep", "(III)V"⟩, 4, (Option.none : Option FieldType), 5, false, false)
def pR72 : pMT := (pI72, prog_8_method_3_code, ⟨"NotYetSaid$Rules", "endRule", "(III)V"⟩, 4, (Option.none : Option FieldType), 5, false, false)
def pR73 : pMT := (pI73, prog_8_method_4_code, ⟨"NotYetSaid$Rules", "changed", "(II[I)I"⟩, 6, (Option.some FieldType.int), 5, false, false)
def pR74 : pMT := (pI74, prog_8_method_5_code, ⟨"NotYetSaid$Rules", "done", "(III)I"⟩, 3, (Option.some FieldType.int), 5, false, false)
def pR75 : pMT := (pI75, prog_8_method_6_code, ⟨"NotYetSaid$Rules", "isSo", "(II[I)Z"⟩, 7, (Option.some FieldType.boolean), 5, false, false)
def pR76 : pMT := (pI76, prog_8_method_7_code, ⟨"NotYetSaid$Rules", "compared", "(I[I)I"⟩, 8, (Option.some FieldType.int), 5, false, false)
def pR77 : pMT := (pI77, prog_9_method_1_code, ⟨"NotYetSaid$Search", "<init>", "(LNotYetSaid$Ride;)V"⟩, 2, (Option.none : Option FieldType), 6, false, true)
def pR78 : pMT := (pI78, prog_9_method_2_code, ⟨"NotYetSaid$Search", "arrives", "(LNotYetSaid$Ride;II)Z"⟩, 6, (Option.some FieldType.boolean), 6, false, false)
def pR79 : pMT := (pI79, prog_9_method_3_code, ⟨"NotYetSaid$Search", "arriving", "(LNotYetSaid$Ride;I)I"⟩, 5, (Option.some FieldType.int), 6, false, false)
def pR80 : pMT := (pI80, prog_9_method_4_code, ⟨"NotYetSaid$Search", "farthest", "(LNotYetSaid$Ride;I)I"⟩, 5, (Option.some FieldType.int), 6, false, false)
def pR81 : pMT := (pI81, prog_9_method_5_code, ⟨"NotYetSaid$Search", "kindest", "(LNotYetSaid$Ride;II)I"⟩, 6, (Option.some FieldType.int), 6, false, false)
def pR82 : pMT := (pI82, prog_9_method_6_code, ⟨"NotYetSaid$Search", "valueOf", "(LNotYetSaid$Ride;I)I"⟩, 5, (Option.some FieldType.int), 6, false, false)
def pR83 : pMT := (pI83, prog_9_method_7_code, ⟨"NotYetSaid$Search", "valueBehind", "(I)I"⟩, 1, (Option.some FieldType.int), 6, false, false)
def pR84 : pMT := (pI84, prog_9_method_8_code, ⟨"NotYetSaid$Search", "better", "(II)I"⟩, 2, (Option.some FieldType.int), 6, false, false)
def pR85 : pMT := (pI85, prog_9_method_9_code, ⟨"NotYetSaid$Search", "bestMove", "(I)I"⟩, 6, (Option.some FieldType.int), 6, false, false)
def pR86 : pMT := (pI86, prog_9_method_10_code, ⟨"NotYetSaid$Search", "shortest", "()I"⟩, 2, (Option.some FieldType.int), 6, false, false)
def pR87 : pMT := (pI87, prog_9_method_11_code, ⟨"NotYetSaid$Search", "walkFirst", "(II)V"⟩, 6, (Option.none : Option FieldType), 6, false, false)
def pR88 : pMT := (pI88, prog_9_method_12_code, ⟨"NotYetSaid$Search", "walkByLot", "()V"⟩, 4, (Option.none : Option FieldType), 6, false, false)
def pR89 : pMT := (pI89, prog_9_method_13_code, ⟨"NotYetSaid$Search", "step", "(I)Z"⟩, 3, (Option.some FieldType.boolean), 6, false, false)
def pR90 : pMT := (pI90, prog_9_method_14_code, ⟨"NotYetSaid$Search", "stepBack", "()V"⟩, 1, (Option.none : Option FieldType), 6, false, false)
def pR91 : pMT := (pI91, prog_9_method_15_code, ⟨"NotYetSaid$Search", "back", "()V"⟩, 2, (Option.none : Option FieldType), 6, false, false)
def pR92 : pMT := (pI92, prog_9_method_16_code, ⟨"NotYetSaid$Search", "isStep", "(I)Z"⟩, 2, (Option.some FieldType.boolean), 6, false, false)
def pR93 : pMT := (pI93, prog_9_method_17_code, ⟨"NotYetSaid$Search", "toldAt", "(I)I"⟩, 2, (Option.some FieldType.int), 6, false, false)
def pR94 : pMT := (pI94, prog_9_method_18_code, ⟨"NotYetSaid$Search", "minuteBehind", "(I)I"⟩, 2, (Option.some FieldType.int), 6, false, false)
def pR95 : pMT := (pI95, prog_9_method_19_code, ⟨"NotYetSaid$Search", "beliefBehind", "(I)I"⟩, 2, (Option.some FieldType.int), 6, false, false)
def pR96 : pMT := (pI96, prog_10_method_1_code, ⟨"NotYetSaid$Song", "<init>", "(I)V"⟩, 2, (Option.none : Option FieldType), 7, false, true)
def pR97 : pMT := (pI97, prog_10_method_2_code, ⟨"NotYetSaid$Song", "lasts", "(II)I"⟩, 3, (Option.some FieldType.int), 7, false, false)
def pR98 : pMT := (pI98, prog_10_method_3_code, ⟨"NotYetSaid$Song", "says", "(ILNotYetSaid$Host;)I"⟩, 3, (Option.some FieldType.int), 7, false, false)
def pR99 : pMT := (pI99, prog_10_method_4_code, ⟨"NotYetSaid$Song", "tells", "(ILNotYetSaid$Host;)I"⟩, 4, (Option.some FieldType.int), 7, false, false)
def pR100 : pMT := (pI100, prog_11_method_1_code, ⟨"NotYetSaid$Soon", "<init>", "(I)V"⟩, 2, (Option.none : Option FieldType), 8, false, true)
def pR101 : pMT := (pI101, prog_11_method_2_code, ⟨"NotYetSaid$Soon", "lasts", "(II)I"⟩, 4, (Option.some FieldType.int), 8, false, false)
def pR102 : pMT := (pI102, prog_11_method_3_code, ⟨"NotYetSaid$Soon", "says", "(ILNotYetSaid$Host;)I"⟩, 3, (Option.some FieldType.int), 8, false, false)
def pR103 : pMT := (pI103, prog_12_method_1_code, ⟨"NotYetSaid$Stop", "<init>", "(I)V"⟩, 2, (Option.none : Option FieldType), 9, false, true)
def pR104 : pMT := (pI104, prog_12_method_2_code, ⟨"NotYetSaid$Stop", "lasts", "(II)I"⟩, 3, (Option.some FieldType.int), 9, false, false)
def pR105 : pMT := (pI105, prog_12_method_3_code, ⟨"NotYetSaid$Stop", "sways", "(ILNotYetSaid$Host;)I"⟩, 3, (Option.some FieldType.int), 9, false, false)
def pR106 : pMT := (pI106, prog_12_method_4_code, ⟨"NotYetSaid$Stop", "shares", "(ILNotYetSaid$Host;)I"⟩, 4, (Option.some FieldType.int), 9, false, false)
def pR107 : pMT := (pI107, prog_1_method_1_code, ⟨"NotYetSaid", "<init>", "()V"⟩, 1, (Option.none : Option FieldType), 10, false, true)
def pR108 : pMT := (pI108, prog_1_method_2_code, ⟨"NotYetSaid", "answer", "(IIII)I"⟩, 5, (Option.some FieldType.int), 10, false, false)
def pR109 : pMT := (pI109, prog_1_method_3_code, ⟨"NotYetSaid", "answerOf", "(II)I"⟩, 4, (Option.some FieldType.int), 10, false, false)
def pR110 : pMT := (pI110, prog_1_method_4_code, ⟨"NotYetSaid", "change", "(III)I"⟩, 6, (Option.some FieldType.int), 10, false, false)
def pR111 : pMT := (pI111, prog_1_method_5_code, ⟨"NotYetSaid", "remake", "(II)I"⟩, 5, (Option.some FieldType.int), 10, false, false)
def pR112 : pMT := (pI112, prog_1_method_6_code, ⟨"NotYetSaid", "leg", "(II)I"⟩, 3, (Option.some FieldType.int), 10, false, false)
def pR113 : pMT := (pI113, prog_1_method_7_code, ⟨"NotYetSaid", "legOf", "(II)I"⟩, 3, (Option.some FieldType.int), 10, false, false)
def pR114 : pMT := (pI114, prog_1_method_8_code, ⟨"NotYetSaid", "drives", "(III)I"⟩, 5, (Option.some FieldType.int), 10, false, false)
def pR115 : pMT := (pI115, prog_1_method_9_code, ⟨"NotYetSaid", "belief", "(I)I"⟩, 3, (Option.some FieldType.int), 10, false, false)
def pR116 : pMT := (pI116, prog_1_method_10_code, ⟨"NotYetSaid", "state", "(I)I"⟩, 2, (Option.some FieldType.int), 10, false, false)
def pR117 : pMT := (pI117, prog_1_method_11_code, ⟨"NotYetSaid", "anew", "()I"⟩, 2, (Option.some FieldType.int), 10, false, false)
def pR118 : pMT := (pI118, prog_1_method_12_code, ⟨"NotYetSaid", "feed", "(JI)I"⟩, 5, (Option.some FieldType.int), 10, true, false)
def pR119 : pMT := (pI119, prog_1_method_13_code, ⟨"NotYetSaid", "rules", "()I"⟩, 2, (Option.some FieldType.int), 10, false, false)
def pR120 : pMT := (pI120, prog_1_method_14_code, ⟨"NotYetSaid", "say", "(I)I"⟩, 2, (Option.some FieldType.int), 10, false, false)
def pR121 : pMT := (pI121, prog_1_method_15_code, ⟨"NotYetSaid", "can", "()I"⟩, 1, (Option.some FieldType.int), 10, false, false)
def pR122 : pMT := (pI122, prog_1_method_16_code, ⟨"NotYetSaid", "fewest", "()I"⟩, 1, (Option.some FieldType.int), 10, false, false)
def pR123 : pMT := (pI123, prog_1_method_17_code, ⟨"NotYetSaid", "ith", "(I)I"⟩, 3, (Option.some FieldType.int), 10, false, false)
def pR124 : pMT := (pI124, prog_1_method_18_code, ⟨"NotYetSaid", "ways", "(I)I"⟩, 2, (Option.some FieldType.int), 10, false, false)
def pR125 : pMT := (pI125, prog_1_method_19_code, ⟨"NotYetSaid", "far", "(I)I"⟩, 2, (Option.some FieldType.int), 10, false, false)
def pR126 : pMT := (pI126, prog_1_method_20_code, ⟨"NotYetSaid", "kind", "(I)I"⟩, 2, (Option.some FieldType.int), 10, false, false)
def pR127 : pMT := (pI127, prog_1_method_21_code, ⟨"NotYetSaid", "kindly", "(II)I"⟩, 5, (Option.some FieldType.int), 10, false, false)
def pR128 : pMT := (pI128, prog_1_method_22_code, ⟨"NotYetSaid", "needs", "()I"⟩, 5, (Option.some FieldType.int), 10, false, false)
def pR129 : pMT := (pI129, prog_1_method_23_code, ⟨"NotYetSaid", "more", "()I"⟩, 6, (Option.some FieldType.int), 10, false, false)
def pR130 : pMT := (pI130, prog_1_method_24_code, ⟨"NotYetSaid", "beliefFor", "(I)I"⟩, 5, (Option.some FieldType.int), 10, false, false)
def pR131 : pMT := (pI131, prog_1_method_25_code, ⟨"NotYetSaid", "game", "(I)I"⟩, 2, (Option.some FieldType.int), 10, false, false)
def pR132 : pMT := (pI132, prog_1_method_26_code, ⟨"NotYetSaid", "play", "(I)I"⟩, 2, (Option.some FieldType.int), 10, false, false)
def pR133 : pMT := (pI133, prog_1_method_27_code, ⟨"NotYetSaid", "report", "(III)I"⟩, 4, (Option.some FieldType.int), 10, false, false)
def pR134 : pMT := (pI134, prog_1_method_28_code, ⟨"NotYetSaid", "forget", "()I"⟩, 2, (Option.some FieldType.int), 10, false, false)
def pR135 : pMT := (pI135, prog_1_method_29_code, ⟨"NotYetSaid", "span", "(I)I"⟩, 6, (Option.some FieldType.int), 10, false, false)
def pR136 : pMT := (pI136, prog_1_method_30_code, ⟨"NotYetSaid", "liar", "()I"⟩, 2, (Option.some FieldType.int), 10, false, false)
def pR137 : pMT := (pI137, prog_1_method_31_code, ⟨"NotYetSaid", "seed", "(I)I"⟩, 3, (Option.some FieldType.int), 10, false, false)
def pR138 : pMT := (pI138, prog_1_method_32_code, ⟨"NotYetSaid", "draw", "()I"⟩, 2, (Option.some FieldType.int), 10, false, false)
def pR139 : pMT := (pI139, prog_1_method_33_code, ⟨"NotYetSaid", "often", "(I)I"⟩, 5, (Option.some FieldType.int), 10, false, false)
def pR140 : pMT := (pI140, prog_1_method_34_code, ⟨"NotYetSaid", "prove", "()I"⟩, 3, (Option.some FieldType.int), 10, false, false)
def pR141 : pMT := (pI141, prog_1_method_35_code, ⟨"NotYetSaid", "row", "(II)I"⟩, 3, (Option.some FieldType.int), 10, false, false)
def pR142 : pMT := (pI142, prog_1_method_36_code, ⟨"NotYetSaid", "alterRow", "(III)I"⟩, 5, (Option.some FieldType.int), 10, false, false)
def pR143 : pMT := (pI143, prog_1_method_37_code, ⟨"NotYetSaid", "judge", "()I"⟩, 4, (Option.some FieldType.int), 10, false, false)
def pR144 : pMT := (pI144, prog_1_method_38_code, ⟨"NotYetSaid", "sheet", "(III)I"⟩, 4, (Option.some FieldType.int), 10, false, false)
def pR145 : pMT := (pI145, prog_1_method_39_code, ⟨"NotYetSaid", "write", "(III)I"⟩, 4, (Option.some FieldType.int), 10, false, false)
def pR146 : pMT := (pI146, prog_1_method_40_code, ⟨"NotYetSaid", "item", "(III)I"⟩, 5, (Option.some FieldType.int), 10, false, false)
def pR147 : pMT := (pI147, prog_1_method_41_code, ⟨"NotYetSaid", "tellAll", "(III)I"⟩, 7, (Option.some FieldType.int), 10, false, false)
def pR148 : pMT := (pI148, prog_1_method_42_code, ⟨"NotYetSaid", "wouldCost", "(III)I"⟩, 7, (Option.some FieldType.int), 10, false, false)
def pR149 : pMT := (pI149, prog_1_method_43_code, ⟨"NotYetSaid", "shelf", "(III)I"⟩, 4, (Option.some FieldType.int), 10, false, false)
def pR150 : pMT := (pI150, prog_1_method_44_code, ⟨"NotYetSaid", "taken", "(II)I"⟩, 5, (Option.some FieldType.int), 10, false, false)
def pR151 : pMT := (pI151, prog_1_method_45_code, ⟨"NotYetSaid", "act", "(III)I"⟩, 6, (Option.some FieldType.int), 10, false, false)
def pR152 : pMT := (pI152, prog_1_method_46_code, ⟨"NotYetSaid", "trace", "(I)I"⟩, 2, (Option.some FieldType.int), 10, false, false)
def pR153 : pMT := (pI153, prog_1_method_47_code, ⟨"NotYetSaid", "many", "(I)I"⟩, 2, (Option.some FieldType.int), 10, false, false)
def pR154 : pMT := (pI154, prog_1_method_48_code, ⟨"NotYetSaid", "keep", "()I"⟩, 1, (Option.some FieldType.int), 10, false, false)
def pR155 : pMT := (pI155, prog_1_method_49_code, ⟨"NotYetSaid", "again", "()I"⟩, 1, (Option.some FieldType.int), 10, false, false)
def pR156 : pMT := (pI156, prog_1_method_50_code, ⟨"NotYetSaid", "between", "(III)Z"⟩, 3, (Option.some FieldType.boolean), 10, false, false)
def pR157 : pMT := (pI157, prog_1_method_51_code, ⟨"NotYetSaid", "isFit", "(II)Z"⟩, 2, (Option.some FieldType.boolean), 10, false, false)
def pR158 : pMT := (pI158, prog_1_method_52_code, ⟨"NotYetSaid", "isLeg", "(II)Z"⟩, 2, (Option.some FieldType.boolean), 10, false, false)
def pR159 : pMT := (pI159, prog_1_method_53_code, ⟨"NotYetSaid", "isLength", "(I)Z"⟩, 1, (Option.some FieldType.boolean), 10, false, false)
def pR160 : pMT := (pI160, prog_1_method_54_code, ⟨"NotYetSaid", "isPlace", "(I)Z"⟩, 1, (Option.some FieldType.boolean), 10, false, false)
def pR161 : pMT := (pI161, prog_1_method_55_code, ⟨"NotYetSaid", "isRowItem", "(II)Z"⟩, 3, (Option.some FieldType.boolean), 10, false, false)
def pR162 : pMT := (pI162, prog_1_method_56_code, ⟨"NotYetSaid", "thingOn", "(I)LNotYetSaid$Answer;"⟩, 2, (Option.some (FieldType.object "NotYetSaid$Answer")), 10, false, false)
def pR163 : pMT := (pI163, prog_1_method_57_code, ⟨"NotYetSaid", "isUnder", "(II)Z"⟩, 4, (Option.some FieldType.boolean), 10, false, false)
def pR164 : pMT := (pI164, prog_14_method_1_code, ⟨"NotYetSaidModel", "<init>", "()V"⟩, 1, (Option.none : Option FieldType), 11, false, true)
def pR165 : pMT := (pI165, prog_14_method_2_code, ⟨"NotYetSaidModel", "in", "(JJJ)Z"⟩, 6, (Option.some FieldType.boolean), 11, true, false)
def pR166 : pMT := (pI166, prog_14_method_3_code, ⟨"NotYetSaidModel", "isAnswer", "(I)Z"⟩, 2, (Option.some FieldType.boolean), 11, false, false)
def pR167 : pMT := (pI167, prog_14_method_4_code, ⟨"NotYetSaidModel", "isLeg", "(I)Z"⟩, 2, (Option.some FieldType.boolean), 11, false, false)
def pR168 : pMT := (pI168, prog_14_method_5_code, ⟨"NotYetSaidModel", "puts", "()V"⟩, 2, (Option.none : Option FieldType), 11, false, false)
def pR169 : pMT := (pI169, prog_14_method_6_code, ⟨"NotYetSaidModel", "putsBack", "()V"⟩, 2, (Option.none : Option FieldType), 11, false, false)
def pR170 : pMT := (pI170, prog_14_method_7_code, ⟨"NotYetSaidModel", "at", "(II)I"⟩, 2, (Option.some FieldType.int), 11, false, false)
def pR171 : pMT := (pI171, prog_14_method_8_code, ⟨"NotYetSaidModel", "its", "(II)I"⟩, 3, (Option.some FieldType.int), 11, false, false)
def pR172 : pMT := (pI172, prog_14_method_9_code, ⟨"NotYetSaidModel", "minutes", "(I)I"⟩, 2, (Option.some FieldType.int), 11, false, false)
def pR173 : pMT := (pI173, prog_14_method_10_code, ⟨"NotYetSaidModel", "theEnd", "()I"⟩, 3, (Option.some FieldType.int), 11, false, false)
def pR174 : pMT := (pI174, prog_14_method_11_code, ⟨"NotYetSaidModel", "isOver", "()Z"⟩, 1, (Option.some FieldType.boolean), 11, false, false)
def pR175 : pMT := (pI175, prog_14_method_12_code, ⟨"NotYetSaidModel", "legNow", "()I"⟩, 3, (Option.some FieldType.int), 11, false, false)
def pR176 : pMT := (pI176, prog_14_method_13_code, ⟨"NotYetSaidModel", "moodNow", "()I"⟩, 2, (Option.some FieldType.int), 11, false, false)
def pR177 : pMT := (pI177, prog_14_method_14_code, ⟨"NotYetSaidModel", "isRoad", "(II)Z"⟩, 2, (Option.some FieldType.boolean), 11, false, false)
def pR178 : pMT := (pI178, prog_14_method_15_code, ⟨"NotYetSaidModel", "leg", "(II)I"⟩, 4, (Option.some FieldType.int), 11, false, false)
def pR179 : pMT := (pI179, prog_14_method_16_code, ⟨"NotYetSaidModel", "legOf", "(II)I"⟩, 3, (Option.some FieldType.int), 11, false, false)
def pR180 : pMT := (pI180, prog_14_method_17_code, ⟨"NotYetSaidModel", "drives", "(III)I"⟩, 5, (Option.some FieldType.int), 11, false, false)
def pR181 : pMT := (pI181, prog_14_method_18_code, ⟨"NotYetSaidModel", "isKind", "(I)Z"⟩, 1, (Option.some FieldType.boolean), 11, false, false)
def pR182 : pMT := (pI182, prog_14_method_19_code, ⟨"NotYetSaidModel", "isPart", "(II)Z"⟩, 2, (Option.some FieldType.boolean), 11, false, false)
def pR183 : pMT := (pI183, prog_14_method_20_code, ⟨"NotYetSaidModel", "answer", "(IIII)I"⟩, 6, (Option.some FieldType.int), 11, false, false)
def pR184 : pMT := (pI184, prog_14_method_21_code, ⟨"NotYetSaidModel", "isUnder", "(II)Z"⟩, 2, (Option.some FieldType.boolean), 11, false, false)
def pR185 : pMT := (pI185, prog_14_method_22_code, ⟨"NotYetSaidModel", "fact", "(II)I"⟩, 3, (Option.some FieldType.int), 11, false, false)
def pR186 : pMT := (pI186, prog_14_method_23_code, ⟨"NotYetSaidModel", "isHolding", "(III)Z"⟩, 3, (Option.some FieldType.boolean), 11, false, false)
def pR187 : pMT := (pI187, prog_14_method_24_code, ⟨"NotYetSaidModel", "isSo", "(III)Z"⟩, 7, (Option.some FieldType.boolean), 11, false, false)
def pR188 : pMT := (pI188, prog_14_method_25_code, ⟨"NotYetSaidModel", "holdsNow", "(I)I"⟩, 13, (Option.some FieldType.int), 11, false, false)
def pR189 : pMT := (pI189, prog_14_method_26_code, ⟨"NotYetSaidModel", "canTell", "(I)Z"⟩, 2, (Option.some FieldType.boolean), 11, false, false)
def pR190 : pMT := (pI190, prog_14_method_27_code, ⟨"NotYetSaidModel", "answerOf", "(II)I"⟩, 3, (Option.some FieldType.int), 11, false, false)
def pR191 : pMT := (pI191, prog_14_method_28_code, ⟨"NotYetSaidModel", "change", "(III)I"⟩, 5, (Option.some FieldType.int), 11, false, false)
def pR192 : pMT := (pI192, prog_14_method_29_code, ⟨"NotYetSaidModel", "remake", "(II)I"⟩, 4, (Option.some FieldType.int), 11, false, false)
def pR193 : pMT := (pI193, prog_14_method_30_code, ⟨"NotYetSaidModel", "belief", "(I)I"⟩, 3, (Option.some FieldType.int), 11, false, false)
def pR194 : pMT := (pI194, prog_14_method_31_code, ⟨"NotYetSaidModel", "state", "(I)I"⟩, 2, (Option.some FieldType.int), 11, false, false)
def pR195 : pMT := (pI195, prog_14_method_32_code, ⟨"NotYetSaidModel", "anew", "()I"⟩, 3, (Option.some FieldType.int), 11, false, false)
def pR196 : pMT := (pI196, prog_14_method_33_code, ⟨"NotYetSaidModel", "tellsIt", "(I)I"⟩, 4, (Option.some FieldType.int), 11, false, false)
def pR197 : pMT := (pI197, prog_14_method_34_code, ⟨"NotYetSaidModel", "takesBack", "(II)V"⟩, 3, (Option.none : Option FieldType), 11, false, false)
def pR198 : pMT := (pI198, prog_14_method_35_code, ⟨"NotYetSaidModel", "say", "(I)I"⟩, 2, (Option.some FieldType.int), 11, false, false)
def pR199 : pMT := (pI199, prog_14_method_36_code, ⟨"NotYetSaidModel", "can", "()I"⟩, 3, (Option.some FieldType.int), 11, false, false)
def pR200 : pMT := (pI200, prog_14_method_37_code, ⟨"NotYetSaidModel", "arrives", "(II)Z"⟩, 6, (Option.some FieldType.boolean), 11, false, false)
def pR201 : pMT := (pI201, prog_14_method_38_code, ⟨"NotYetSaidModel", "shortest", "()I"⟩, 2, (Option.some FieldType.int), 11, false, false)
def pR202 : pMT := (pI202, prog_14_method_39_code, ⟨"NotYetSaidModel", "fewest", "()I"⟩, 2, (Option.some FieldType.int), 11, false, false)
def pR203 : pMT := (pI203, prog_14_method_40_code, ⟨"NotYetSaidModel", "ith", "(I)I"⟩, 2, (Option.some FieldType.int), 11, false, false)
def pR204 : pMT := (pI204, prog_14_method_41_code, ⟨"NotYetSaidModel", "isMany", "(I)Z"⟩, 1, (Option.some FieldType.boolean), 11, false, false)
def pR205 : pMT := (pI205, prog_14_method_42_code, ⟨"NotYetSaidModel", "waysOf", "(I)I"⟩, 5, (Option.some FieldType.int), 11, false, false)
def pR206 : pMT := (pI206, prog_14_method_43_code, ⟨"NotYetSaidModel", "ways", "(I)I"⟩, 2, (Option.some FieldType.int), 11, false, false)
def pR207 : pMT := (pI207, prog_14_method_44_code, ⟨"NotYetSaidModel", "farOf", "(I)I"⟩, 6, (Option.some FieldType.int), 11, false, false)
def pR208 : pMT := (pI208, prog_14_method_45_code, ⟨"NotYetSaidModel", "far", "(I)I"⟩, 2, (Option.some FieldType.int), 11, false, false)
def pR209 : pMT := (pI209, prog_14_method_46_code, ⟨"NotYetSaidModel", "kindOf", "(I)I"⟩, 6, (Option.some FieldType.int), 11, false, false)
def pR210 : pMT := (pI210, prog_14_method_47_code, ⟨"NotYetSaidModel", "kind", "(I)I"⟩, 3, (Option.some FieldType.int), 11, false, false)
def pR211 : pMT := (pI211, prog_14_method_48_code, ⟨"NotYetSaidModel", "kindStep", "(II)I"⟩, 6, (Option.some FieldType.int), 11, false, false)
def pR212 : pMT := (pI212, prog_14_method_49_code, ⟨"NotYetSaidModel", "kindly", "(II)I"⟩, 7, (Option.some FieldType.int), 11, false, false)
def pR213 : pMT := (pI213, prog_14_method_50_code, ⟨"NotYetSaidModel", "needs", "()I"⟩, 5, (Option.some FieldType.int), 11, false, false)
def pR214 : pMT := (pI214, prog_14_method_51_code, ⟨"NotYetSaidModel", "more", "()I"⟩, 5, (Option.some FieldType.int), 11, false, false)
def pR215 : pMT := (pI215, prog_14_method_52_code, ⟨"NotYetSaidModel", "beliefFor", "(I)I"⟩, 5, (Option.some FieldType.int), 11, false, false)
def pR216 : pMT := (pI216, prog_14_method_53_code, ⟨"NotYetSaidModel", "leadsTo", "(II)I"⟩, 5, (Option.some FieldType.int), 11, false, false)
def pR217 : pMT := (pI217, prog_14_method_54_code, ⟨"NotYetSaidModel", "rank", "(I)I"⟩, 1, (Option.some FieldType.int), 11, false, false)
def pR218 : pMT := (pI218, prog_14_method_55_code, ⟨"NotYetSaidModel", "valueOf", "(I)I"⟩, 5, (Option.some FieldType.int), 11, false, false)
def pR219 : pMT := (pI219, prog_14_method_56_code, ⟨"NotYetSaidModel", "game", "(I)I"⟩, 2, (Option.some FieldType.int), 11, false, false)
def pR220 : pMT := (pI220, prog_14_method_57_code, ⟨"NotYetSaidModel", "play", "(I)I"⟩, 4, (Option.some FieldType.int), 11, false, false)
def pR221 : pMT := (pI221, prog_14_method_58_code, ⟨"NotYetSaidModel", "report", "(III)I"⟩, 5, (Option.some FieldType.int), 11, false, false)
def pR222 : pMT := (pI222, prog_14_method_59_code, ⟨"NotYetSaidModel", "forget", "()I"⟩, 2, (Option.some FieldType.int), 11, false, false)
def pR223 : pMT := (pI223, prog_14_method_60_code, ⟨"NotYetSaidModel", "findFits", "(I)V"⟩, 7, (Option.none : Option FieldType), 11, false, false)
def pR224 : pMT := (pI224, prog_14_method_61_code, ⟨"NotYetSaidModel", "span", "(I)I"⟩, 2, (Option.some FieldType.int), 11, false, false)
def pR225 : pMT := (pI225, prog_14_method_62_code, ⟨"NotYetSaidModel", "liar", "()I"⟩, 3, (Option.some FieldType.int), 11, false, false)
def pR226 : pMT := (pI226, prog_14_method_63_code, ⟨"NotYetSaidModel", "seed", "(I)I"⟩, 3, (Option.some FieldType.int), 11, false, false)
def pR227 : pMT := (pI227, prog_14_method_64_code, ⟨"NotYetSaidModel", "ones", "(I)I"⟩, 3, (Option.some FieldType.int), 11, false, false)
def pR228 : pMT := (pI228, prog_14_method_65_code, ⟨"NotYetSaidModel", "draw", "()I"⟩, 5, (Option.some FieldType.int), 11, false, false)
def pR229 : pMT := (pI229, prog_14_method_66_code, ⟨"NotYetSaidModel", "often", "(I)I"⟩, 6, (Option.some FieldType.int), 11, false, false)
def pR230 : pMT := (pI230, prog_14_method_67_code, ⟨"NotYetSaidModel", "prove", "()I"⟩, 4, (Option.some FieldType.int), 11, false, false)
def pR231 : pMT := (pI231, prog_14_method_68_code, ⟨"NotYetSaidModel", "isRow", "(II)Z"⟩, 3, (Option.some FieldType.boolean), 11, false, false)
def pR232 : pMT := (pI232, prog_14_method_69_code, ⟨"NotYetSaidModel", "row", "(II)I"⟩, 3, (Option.some FieldType.int), 11, false, false)
def pR233 : pMT := (pI233, prog_14_method_70_code, ⟨"NotYetSaidModel", "alterRow", "(III)I"⟩, 5, (Option.some FieldType.int), 11, false, false)
def pR234 : pMT := (pI234, prog_14_method_71_code, ⟨"NotYetSaidModel", "judge", "()I"⟩, 6, (Option.some FieldType.int), 11, false, false)
def pR235 : pMT := (pI235, prog_14_method_72_code, ⟨"NotYetSaidModel", "feed", "(JI)I"⟩, 5, (Option.some FieldType.int), 11, true, false)
def pR236 : pMT := (pI236, prog_14_method_73_code, ⟨"NotYetSaidModel", "byteAt", "(I)I"⟩, 2, (Option.some FieldType.int), 11, false, false)
def pR237 : pMT := (pI237, prog_14_method_74_code, ⟨"NotYetSaidModel", "isLetter", "(I)Z"⟩, 1, (Option.some FieldType.boolean), 11, false, false)
def pR238 : pMT := (pI238, prog_14_method_75_code, ⟨"NotYetSaidModel", "isDigit", "(I)Z"⟩, 1, (Option.some FieldType.boolean), 11, false, false)
def pR239 : pMT := (pI239, prog_14_method_76_code, ⟨"NotYetSaidModel", "token", "()V"⟩, 3, (Option.none : Option FieldType), 11, false, false)
def pR240 : pMT := (pI240, prog_14_method_77_code, ⟨"NotYetSaidModel", "wants", "(Z)V"⟩, 2, (Option.none : Option FieldType), 11, false, false)
def pR241 : pMT := (pI241, prog_14_method_78_code, ⟨"NotYetSaidModel", "word", "()J"⟩, 4, (Option.some FieldType.long), 11, true, false)
def pR242 : pMT := (pI242, prog_14_method_79_code, ⟨"NotYetSaidModel", "number", "(I)V"⟩, 4, (Option.none : Option FieldType), 11, false, false)
def pR243 : pMT := (pI243, prog_14_method_80_code, ⟨"NotYetSaidModel", "kindHere", "()I"⟩, 3, (Option.some FieldType.int), 11, true, false)
def pR244 : pMT := (pI244, prog_14_method_81_code, ⟨"NotYetSaidModel", "factHere", "()I"⟩, 3, (Option.some FieldType.int), 11, true, false)
def pR245 : pMT := (pI245, prog_14_method_82_code, ⟨"NotYetSaidModel", "writes", "(I)V"⟩, 2, (Option.none : Option FieldType), 11, false, false)
def pR246 : pMT := (pI246, prog_14_method_83_code, ⟨"NotYetSaidModel", "valueHere", "()V"⟩, 2, (Option.none : Option FieldType), 11, false, false)
def pR247 : pMT := (pI247, prog_14_method_84_code, ⟨"NotYetSaidModel", "comparison", "()V"⟩, 2, (Option.none : Option FieldType), 11, false, false)
def pR248 : pMT := (pI248, prog_14_method_85_code, ⟨"NotYetSaidModel", "one", "()V"⟩, 2, (Option.none : Option FieldType), 11, false, false)
def pR249 : pMT := (pI249, prog_14_method_86_code, ⟨"NotYetSaidModel", "all", "()V"⟩, 1, (Option.none : Option FieldType), 11, false, false)
def pR250 : pMT := (pI250, prog_14_method_87_code, ⟨"NotYetSaidModel", "condition", "()V"⟩, 1, (Option.none : Option FieldType), 11, false, false)
def pR251 : pMT := (pI251, prog_14_method_88_code, ⟨"NotYetSaidModel", "rule", "()V"⟩, 7, (Option.none : Option FieldType), 11, true, false)
def pR252 : pMT := (pI252, prog_14_method_89_code, ⟨"NotYetSaidModel", "rules", "()I"⟩, 1, (Option.some FieldType.int), 11, false, false)
def pR253 : pMT := (pI253, prog_14_method_90_code, ⟨"NotYetSaidModel", "isOne", "(I)Z"⟩, 1, (Option.some FieldType.boolean), 11, false, false)
def pR254 : pMT := (pI254, prog_14_method_91_code, ⟨"NotYetSaidModel", "sheet", "(III)I"⟩, 5, (Option.some FieldType.int), 11, false, false)
def pR255 : pMT := (pI255, prog_14_method_92_code, ⟨"NotYetSaidModel", "narrowed", "(II)I"⟩, 2, (Option.some FieldType.int), 11, false, false)
def pR256 : pMT := (pI256, prog_14_method_93_code, ⟨"NotYetSaidModel", "write", "(III)I"⟩, 4, (Option.some FieldType.int), 11, false, false)
def pR257 : pMT := (pI257, prog_14_method_94_code, ⟨"NotYetSaidModel", "wrong", "(II)I"⟩, 3, (Option.some FieldType.int), 11, false, false)
def pR258 : pMT := (pI258, prog_14_method_95_code, ⟨"NotYetSaidModel", "item", "(III)I"⟩, 5, (Option.some FieldType.int), 11, false, false)
def pR259 : pMT := (pI259, prog_14_method_96_code, ⟨"NotYetSaidModel", "wrongItems", "(II)I"⟩, 3, (Option.some FieldType.int), 11, false, false)
def pR260 : pMT := (pI260, prog_14_method_97_code, ⟨"NotYetSaidModel", "isItem", "(IJ)Z"⟩, 4, (Option.some FieldType.boolean), 11, true, false)
def pR261 : pMT := (pI261, prog_14_method_98_code, ⟨"NotYetSaidModel", "tellAll", "(III)I"⟩, 8, (Option.some FieldType.int), 11, false, false)
def pR262 : pMT := (pI262, prog_14_method_99_code, ⟨"NotYetSaidModel", "wouldCost", "(III)I"⟩, 6, (Option.some FieldType.int), 11, false, false)
def pR263 : pMT := (pI263, prog_14_method_100_code, ⟨"NotYetSaidModel", "shelf", "(III)I"⟩, 4, (Option.some FieldType.int), 11, false, false)
def pR264 : pMT := (pI264, prog_14_method_101_code, ⟨"NotYetSaidModel", "onShelf", "(I)I"⟩, 2, (Option.some FieldType.int), 11, false, false)
def pR265 : pMT := (pI265, prog_14_method_102_code, ⟨"NotYetSaidModel", "taken", "(II)I"⟩, 5, (Option.some FieldType.int), 11, false, false)
def pR266 : pMT := (pI266, prog_14_method_103_code, ⟨"NotYetSaidModel", "runs", "(I)V"⟩, 2, (Option.none : Option FieldType), 11, false, false)
def pR267 : pMT := (pI267, prog_14_method_104_code, ⟨"NotYetSaidModel", "says", "(I)I"⟩, 3, (Option.some FieldType.int), 11, false, false)
def pR268 : pMT := (pI268, prog_14_method_105_code, ⟨"NotYetSaidModel", "sways", "(I)I"⟩, 4, (Option.some FieldType.int), 11, false, false)
def pR269 : pMT := (pI269, prog_14_method_106_code, ⟨"NotYetSaidModel", "parts", "(I)I"⟩, 2, (Option.some FieldType.int), 11, false, false)
def pR270 : pMT := (pI270, prog_14_method_107_code, ⟨"NotYetSaidModel", "shares", "(I)I"⟩, 3, (Option.some FieldType.int), 11, false, false)
def pR271 : pMT := (pI271, prog_14_method_108_code, ⟨"NotYetSaidModel", "tells", "(I)I"⟩, 3, (Option.some FieldType.int), 11, false, false)
def pR272 : pMT := (pI272, prog_14_method_109_code, ⟨"NotYetSaidModel", "act", "(III)I"⟩, 5, (Option.some FieldType.int), 11, false, false)
def pR273 : pMT := (pI273, prog_14_method_110_code, ⟨"NotYetSaidModel", "traced", "()I"⟩, 1, (Option.some FieldType.int), 11, false, false)
def pR274 : pMT := (pI274, prog_14_method_111_code, ⟨"NotYetSaidModel", "trace", "(I)I"⟩, 2, (Option.some FieldType.int), 11, false, false)
def pR275 : pMT := (pI275, prog_14_method_112_code, ⟨"NotYetSaidModel", "many", "(I)I"⟩, 2, (Option.some FieldType.int), 11, false, false)
def pR276 : pMT := (pI276, prog_14_method_113_code, ⟨"NotYetSaidModel", "keep", "()I"⟩, 2, (Option.some FieldType.int), 11, false, false)
def pR277 : pMT := (pI277, prog_14_method_114_code, ⟨"NotYetSaidModel", "again", "()I"⟩, 2, (Option.some FieldType.int), 11, false, false)
def pR278 : pMT := (pI278, prog_2_method_1_code, ⟨"NotYetSaid$Answer", "<init>", "(II)V"⟩, 3, (Option.none : Option FieldType), 12, false, true)
def pR279 : pMT := (pI279, prog_2_method_2_code, ⟨"NotYetSaid$Answer", "make", "(II)LNotYetSaid$Answer;"⟩, 2, (Option.some (FieldType.object "NotYetSaid$Answer")), 12, false, false)
def pR280 : pMT := (pI280, prog_2_method_3_code, ⟨"NotYetSaid$Answer", "takeOver", "(LNotYetSaid$Answer;)V"⟩, 2, (Option.none : Option FieldType), 12, false, false)
def pR281 : pMT := (pI281, prog_2_method_5_code, ⟨"NotYetSaid$Answer", "says", "(ILNotYetSaid$Host;)I"⟩, 3, (Option.some FieldType.int), 12, false, false)
def pR282 : pMT := (pI282, prog_2_method_6_code, ⟨"NotYetSaid$Answer", "sways", "(ILNotYetSaid$Host;)I"⟩, 3, (Option.some FieldType.int), 12, false, false)
def pR283 : pMT := (pI283, prog_2_method_7_code, ⟨"NotYetSaid$Answer", "shares", "(ILNotYetSaid$Host;)I"⟩, 4, (Option.some FieldType.int), 12, false, false)
def pR284 : pMT := (pI284, prog_2_method_8_code, ⟨"NotYetSaid$Answer", "tells", "(ILNotYetSaid$Host;)I"⟩, 3, (Option.some FieldType.int), 12, false, false)
def pR285 : pMT := (pI285, prog_15_method_49_code, ⟨"java/lang/Integer", "bitCount", "(I)I"⟩, 1, (Option.some FieldType.int), 15, false, false)
def pR286 : pMT := (pI286, prog_21_method_103_code, ⟨"java/util/Arrays", "fill", "([II)V"⟩, 4, (Option.none : Option FieldType), 16, false, false)
def pR287 : pMT := (pI287, code, ⟨"NotYetSaidLaw", "law", "([I)Z"⟩, 4, (Option.some FieldType.boolean), 13, false, false)
def pMth (y : Nat) : Option pMT := (bif Nat.blt y 144 then (bif Nat.blt y 72 then (bif Nat.blt y 36 then (bif Nat.blt y 18 then (bif Nat.blt y 9 then (bif Nat.blt y 4 then (bif Nat.blt y 2 then (bif Nat.blt y 1 then (bif Nat.beq y 0 then some pR0 else none) else (bif Nat.beq y 1 then some pR1 else none)) else (bif Nat.blt y 3 then (bif Nat.beq y 2 then some pR2 else none) else (bif Nat.beq y 3 then some pR3 else none))) else (bif Nat.blt y 6 then (bif Nat.blt y 5 then (bif Nat.beq y 4 then some pR4 else none) else (bif Nat.beq y 5 then some pR5 else none)) else (bif Nat.blt y 7 then (bif Nat.beq y 6 then some pR6 else none) else (bif Nat.blt y 8 then (bif Nat.beq y 7 then some pR7 else none) else (bif Nat.beq y 8 then some pR8 else none))))) else (bif Nat.blt y 13 then (bif Nat.blt y 11 then (bif Nat.blt y 10 then (bif Nat.beq y 9 then some pR9 else none) else (bif Nat.beq y 10 then some pR10 else none)) else (bif Nat.blt y 12 then (bif Nat.beq y 11 then some pR11 else none) else (bif Nat.beq y 12 then some pR12 else none))) else (bif Nat.blt y 15 then (bif Nat.blt y 14 then (bif Nat.beq y 13 then some pR13 else none) else (bif Nat.beq y 14 then some pR14 else none)) else (bif Nat.blt y 16 then (bif Nat.beq y 15 then some pR15 else none) else (bif Nat.blt y 17 then (bif Nat.beq y 16 then some pR16 else none) else (bif Nat.beq y 17 then some pR17 else none)))))) else (bif Nat.blt y 27 then (bif Nat.blt y 22 then (bif Nat.blt y 20 then (bif Nat.blt y 19 then (bif Nat.beq y 18 then some pR18 else none) else (bif Nat.beq y 19 then some pR19 else none)) else (bif Nat.blt y 21 then (bif Nat.beq y 20 then some pR20 else none) else (bif Nat.beq y 21 then some pR21 else none))) else (bif Nat.blt y 24 then (bif Nat.blt y 23 then (bif Nat.beq y 22 then some pR22 else none) else (bif Nat.beq y 23 then some pR23 else none)) else (bif Nat.blt y 25 then (bif Nat.beq y 24 then some pR24 else none) else (bif Nat.blt y 26 then (bif Nat.beq y 25 then some pR25 else none) else (bif Nat.beq y 26 then some pR26 else none))))) else (bif Nat.blt y 31 then (bif Nat.blt y 29 then (bif Nat.blt y 28 then (bif Nat.beq y 27 then some pR27 else none) else (bif Nat.beq y 28 then some pR28 else none)) else (bif Nat.blt y 30 then (bif Nat.beq y 29 then some pR29 else none) else (bif Nat.beq y 30 then some pR30 else none))) else (bif Nat.blt y 33 then (bif Nat.blt y 32 then (bif Nat.beq y 31 then some pR31 else none) else (bif Nat.beq y 32 then some pR32 else none)) else (bif Nat.blt y 34 then (bif Nat.beq y 33 then some pR33 else none) else (bif Nat.blt y 35 then (bif Nat.beq y 34 then some pR34 else none) else (bif Nat.beq y 35 then some pR35 else none))))))) else (bif Nat.blt y 54 then (bif Nat.blt y 45 then (bif Nat.blt y 40 then (bif Nat.blt y 38 then (bif Nat.blt y 37 then (bif Nat.beq y 36 then some pR36 else none) else (bif Nat.beq y 37 then some pR37 else none)) else (bif Nat.blt y 39 then (bif Nat.beq y 38 then some pR38 else none) else (bif Nat.beq y 39 then some pR39 else none))) else (bif Nat.blt y 42 then (bif Nat.blt y 41 then (bif Nat.beq y 40 then some pR40 else none) else (bif Nat.beq y 41 then some pR41 else none)) else (bif Nat.blt y 43 then (bif Nat.beq y 42 then some pR42 else none) else (bif Nat.blt y 44 then (bif Nat.beq y 43 then some pR43 else none) else (bif Nat.beq y 44 then some pR44 else none))))) else (bif Nat.blt y 49 then (bif Nat.blt y 47 then (bif Nat.blt y 46 then (bif Nat.beq y 45 then some pR45 else none) else (bif Nat.beq y 46 then some pR46 else none)) else (bif Nat.blt y 48 then (bif Nat.beq y 47 then some pR47 else none) else (bif Nat.beq y 48 then some pR48 else none))) else (bif Nat.blt y 51 then (bif Nat.blt y 50 then (bif Nat.beq y 49 then some pR49 else none) else (bif Nat.beq y 50 then some pR50 else none)) else (bif Nat.blt y 52 then (bif Nat.beq y 51 then some pR51 else none) else (bif Nat.blt y 53 then (bif Nat.beq y 52 then some pR52 else none) else (bif Nat.beq y 53 then some pR53 else none)))))) else (bif Nat.blt y 63 then (bif Nat.blt y 58 then (bif Nat.blt y 56 then (bif Nat.blt y 55 then (bif Nat.beq y 54 then some pR54 else none) else (bif Nat.beq y 55 then some pR55 else none)) else (bif Nat.blt y 57 then (bif Nat.beq y 56 then some pR56 else none) else (bif Nat.beq y 57 then some pR57 else none))) else (bif Nat.blt y 60 then (bif Nat.blt y 59 then (bif Nat.beq y 58 then some pR58 else none) else (bif Nat.beq y 59 then some pR59 else none)) else (bif Nat.blt y 61 then (bif Nat.beq y 60 then some pR60 else none) else (bif Nat.blt y 62 then (bif Nat.beq y 61 then some pR61 else none) else (bif Nat.beq y 62 then some pR62 else none))))) else (bif Nat.blt y 67 then (bif Nat.blt y 65 then (bif Nat.blt y 64 then (bif Nat.beq y 63 then some pR63 else none) else (bif Nat.beq y 64 then some pR64 else none)) else (bif Nat.blt y 66 then (bif Nat.beq y 65 then some pR65 else none) else (bif Nat.beq y 66 then some pR66 else none))) else (bif Nat.blt y 69 then (bif Nat.blt y 68 then (bif Nat.beq y 67 then some pR67 else none) else (bif Nat.beq y 68 then some pR68 else none)) else (bif Nat.blt y 70 then (bif Nat.beq y 69 then some pR69 else none) else (bif Nat.blt y 71 then (bif Nat.beq y 70 then some pR70 else none) else (bif Nat.beq y 71 then some pR71 else none)))))))) else (bif Nat.blt y 108 then (bif Nat.blt y 90 then (bif Nat.blt y 81 then (bif Nat.blt y 76 then (bif Nat.blt y 74 then (bif Nat.blt y 73 then (bif Nat.beq y 72 then some pR72 else none) else (bif Nat.beq y 73 then some pR73 else none)) else (bif Nat.blt y 75 then (bif Nat.beq y 74 then some pR74 else none) else (bif Nat.beq y 75 then some pR75 else none))) else (bif Nat.blt y 78 then (bif Nat.blt y 77 then (bif Nat.beq y 76 then some pR76 else none) else (bif Nat.beq y 77 then some pR77 else none)) else (bif Nat.blt y 79 then (bif Nat.beq y 78 then some pR78 else none) else (bif Nat.blt y 80 then (bif Nat.beq y 79 then some pR79 else none) else (bif Nat.beq y 80 then some pR80 else none))))) else (bif Nat.blt y 85 then (bif Nat.blt y 83 then (bif Nat.blt y 82 then (bif Nat.beq y 81 then some pR81 else none) else (bif Nat.beq y 82 then some pR82 else none)) else (bif Nat.blt y 84 then (bif Nat.beq y 83 then some pR83 else none) else (bif Nat.beq y 84 then some pR84 else none))) else (bif Nat.blt y 87 then (bif Nat.blt y 86 then (bif Nat.beq y 85 then some pR85 else none) else (bif Nat.beq y 86 then some pR86 else none)) else (bif Nat.blt y 88 then (bif Nat.beq y 87 then some pR87 else none) else (bif Nat.blt y 89 then (bif Nat.beq y 88 then some pR88 else none) else (bif Nat.beq y 89 then some pR89 else none)))))) else (bif Nat.blt y 99 then (bif Nat.blt y 94 then (bif Nat.blt y 92 then (bif Nat.blt y 91 then (bif Nat.beq y 90 then some pR90 else none) else (bif Nat.beq y 91 then some pR91 else none)) else (bif Nat.blt y 93 then (bif Nat.beq y 92 then some pR92 else none) else (bif Nat.beq y 93 then some pR93 else none))) else (bif Nat.blt y 96 then (bif Nat.blt y 95 then (bif Nat.beq y 94 then some pR94 else none) else (bif Nat.beq y 95 then some pR95 else none)) else (bif Nat.blt y 97 then (bif Nat.beq y 96 then some pR96 else none) else (bif Nat.blt y 98 then (bif Nat.beq y 97 then some pR97 else none) else (bif Nat.beq y 98 then some pR98 else none))))) else (bif Nat.blt y 103 then (bif Nat.blt y 101 then (bif Nat.blt y 100 then (bif Nat.beq y 99 then some pR99 else none) else (bif Nat.beq y 100 then some pR100 else none)) else (bif Nat.blt y 102 then (bif Nat.beq y 101 then some pR101 else none) else (bif Nat.beq y 102 then some pR102 else none))) else (bif Nat.blt y 105 then (bif Nat.blt y 104 then (bif Nat.beq y 103 then some pR103 else none) else (bif Nat.beq y 104 then some pR104 else none)) else (bif Nat.blt y 106 then (bif Nat.beq y 105 then some pR105 else none) else (bif Nat.blt y 107 then (bif Nat.beq y 106 then some pR106 else none) else (bif Nat.beq y 107 then some pR107 else none))))))) else (bif Nat.blt y 126 then (bif Nat.blt y 117 then (bif Nat.blt y 112 then (bif Nat.blt y 110 then (bif Nat.blt y 109 then (bif Nat.beq y 108 then some pR108 else none) else (bif Nat.beq y 109 then some pR109 else none)) else (bif Nat.blt y 111 then (bif Nat.beq y 110 then some pR110 else none) else (bif Nat.beq y 111 then some pR111 else none))) else (bif Nat.blt y 114 then (bif Nat.blt y 113 then (bif Nat.beq y 112 then some pR112 else none) else (bif Nat.beq y 113 then some pR113 else none)) else (bif Nat.blt y 115 then (bif Nat.beq y 114 then some pR114 else none) else (bif Nat.blt y 116 then (bif Nat.beq y 115 then some pR115 else none) else (bif Nat.beq y 116 then some pR116 else none))))) else (bif Nat.blt y 121 then (bif Nat.blt y 119 then (bif Nat.blt y 118 then (bif Nat.beq y 117 then some pR117 else none) else (bif Nat.beq y 118 then some pR118 else none)) else (bif Nat.blt y 120 then (bif Nat.beq y 119 then some pR119 else none) else (bif Nat.beq y 120 then some pR120 else none))) else (bif Nat.blt y 123 then (bif Nat.blt y 122 then (bif Nat.beq y 121 then some pR121 else none) else (bif Nat.beq y 122 then some pR122 else none)) else (bif Nat.blt y 124 then (bif Nat.beq y 123 then some pR123 else none) else (bif Nat.blt y 125 then (bif Nat.beq y 124 then some pR124 else none) else (bif Nat.beq y 125 then some pR125 else none)))))) else (bif Nat.blt y 135 then (bif Nat.blt y 130 then (bif Nat.blt y 128 then (bif Nat.blt y 127 then (bif Nat.beq y 126 then some pR126 else none) else (bif Nat.beq y 127 then some pR127 else none)) else (bif Nat.blt y 129 then (bif Nat.beq y 128 then some pR128 else none) else (bif Nat.beq y 129 then some pR129 else none))) else (bif Nat.blt y 132 then (bif Nat.blt y 131 then (bif Nat.beq y 130 then some pR130 else none) else (bif Nat.beq y 131 then some pR131 else none)) else (bif Nat.blt y 133 then (bif Nat.beq y 132 then some pR132 else none) else (bif Nat.blt y 134 then (bif Nat.beq y 133 then some pR133 else none) else (bif Nat.beq y 134 then some pR134 else none))))) else (bif Nat.blt y 139 then (bif Nat.blt y 137 then (bif Nat.blt y 136 then (bif Nat.beq y 135 then some pR135 else none) else (bif Nat.beq y 136 then some pR136 else none)) else (bif Nat.blt y 138 then (bif Nat.beq y 137 then some pR137 else none) else (bif Nat.beq y 138 then some pR138 else none))) else (bif Nat.blt y 141 then (bif Nat.blt y 140 then (bif Nat.beq y 139 then some pR139 else none) else (bif Nat.beq y 140 then some pR140 else none)) else (bif Nat.blt y 142 then (bif Nat.beq y 141 then some pR141 else none) else (bif Nat.blt y 143 then (bif Nat.beq y 142 then some pR142 else none) else (bif Nat.beq y 143 then some pR143 else none))))))))) else (bif Nat.blt y 216 then (bif Nat.blt y 180 then (bif Nat.blt y 162 then (bif Nat.blt y 153 then (bif Nat.blt y 148 then (bif Nat.blt y 146 then (bif Nat.blt y 145 then (bif Nat.beq y 144 then some pR144 else none) else (bif Nat.beq y 145 then some pR145 else none)) else (bif Nat.blt y 147 then (bif Nat.beq y 146 then some pR146 else none) else (bif Nat.beq y 147 then some pR147 else none))) else (bif Nat.blt y 150 then (bif Nat.blt y 149 then (bif Nat.beq y 148 then some pR148 else none) else (bif Nat.beq y 149 then some pR149 else none)) else (bif Nat.blt y 151 then (bif Nat.beq y 150 then some pR150 else none) else (bif Nat.blt y 152 then (bif Nat.beq y 151 then some pR151 else none) else (bif Nat.beq y 152 then some pR152 else none))))) else (bif Nat.blt y 157 then (bif Nat.blt y 155 then (bif Nat.blt y 154 then (bif Nat.beq y 153 then some pR153 else none) else (bif Nat.beq y 154 then some pR154 else none)) else (bif Nat.blt y 156 then (bif Nat.beq y 155 then some pR155 else none) else (bif Nat.beq y 156 then some pR156 else none))) else (bif Nat.blt y 159 then (bif Nat.blt y 158 then (bif Nat.beq y 157 then some pR157 else none) else (bif Nat.beq y 158 then some pR158 else none)) else (bif Nat.blt y 160 then (bif Nat.beq y 159 then some pR159 else none) else (bif Nat.blt y 161 then (bif Nat.beq y 160 then some pR160 else none) else (bif Nat.beq y 161 then some pR161 else none)))))) else (bif Nat.blt y 171 then (bif Nat.blt y 166 then (bif Nat.blt y 164 then (bif Nat.blt y 163 then (bif Nat.beq y 162 then some pR162 else none) else (bif Nat.beq y 163 then some pR163 else none)) else (bif Nat.blt y 165 then (bif Nat.beq y 164 then some pR164 else none) else (bif Nat.beq y 165 then some pR165 else none))) else (bif Nat.blt y 168 then (bif Nat.blt y 167 then (bif Nat.beq y 166 then some pR166 else none) else (bif Nat.beq y 167 then some pR167 else none)) else (bif Nat.blt y 169 then (bif Nat.beq y 168 then some pR168 else none) else (bif Nat.blt y 170 then (bif Nat.beq y 169 then some pR169 else none) else (bif Nat.beq y 170 then some pR170 else none))))) else (bif Nat.blt y 175 then (bif Nat.blt y 173 then (bif Nat.blt y 172 then (bif Nat.beq y 171 then some pR171 else none) else (bif Nat.beq y 172 then some pR172 else none)) else (bif Nat.blt y 174 then (bif Nat.beq y 173 then some pR173 else none) else (bif Nat.beq y 174 then some pR174 else none))) else (bif Nat.blt y 177 then (bif Nat.blt y 176 then (bif Nat.beq y 175 then some pR175 else none) else (bif Nat.beq y 176 then some pR176 else none)) else (bif Nat.blt y 178 then (bif Nat.beq y 177 then some pR177 else none) else (bif Nat.blt y 179 then (bif Nat.beq y 178 then some pR178 else none) else (bif Nat.beq y 179 then some pR179 else none))))))) else (bif Nat.blt y 198 then (bif Nat.blt y 189 then (bif Nat.blt y 184 then (bif Nat.blt y 182 then (bif Nat.blt y 181 then (bif Nat.beq y 180 then some pR180 else none) else (bif Nat.beq y 181 then some pR181 else none)) else (bif Nat.blt y 183 then (bif Nat.beq y 182 then some pR182 else none) else (bif Nat.beq y 183 then some pR183 else none))) else (bif Nat.blt y 186 then (bif Nat.blt y 185 then (bif Nat.beq y 184 then some pR184 else none) else (bif Nat.beq y 185 then some pR185 else none)) else (bif Nat.blt y 187 then (bif Nat.beq y 186 then some pR186 else none) else (bif Nat.blt y 188 then (bif Nat.beq y 187 then some pR187 else none) else (bif Nat.beq y 188 then some pR188 else none))))) else (bif Nat.blt y 193 then (bif Nat.blt y 191 then (bif Nat.blt y 190 then (bif Nat.beq y 189 then some pR189 else none) else (bif Nat.beq y 190 then some pR190 else none)) else (bif Nat.blt y 192 then (bif Nat.beq y 191 then some pR191 else none) else (bif Nat.beq y 192 then some pR192 else none))) else (bif Nat.blt y 195 then (bif Nat.blt y 194 then (bif Nat.beq y 193 then some pR193 else none) else (bif Nat.beq y 194 then some pR194 else none)) else (bif Nat.blt y 196 then (bif Nat.beq y 195 then some pR195 else none) else (bif Nat.blt y 197 then (bif Nat.beq y 196 then some pR196 else none) else (bif Nat.beq y 197 then some pR197 else none)))))) else (bif Nat.blt y 207 then (bif Nat.blt y 202 then (bif Nat.blt y 200 then (bif Nat.blt y 199 then (bif Nat.beq y 198 then some pR198 else none) else (bif Nat.beq y 199 then some pR199 else none)) else (bif Nat.blt y 201 then (bif Nat.beq y 200 then some pR200 else none) else (bif Nat.beq y 201 then some pR201 else none))) else (bif Nat.blt y 204 then (bif Nat.blt y 203 then (bif Nat.beq y 202 then some pR202 else none) else (bif Nat.beq y 203 then some pR203 else none)) else (bif Nat.blt y 205 then (bif Nat.beq y 204 then some pR204 else none) else (bif Nat.blt y 206 then (bif Nat.beq y 205 then some pR205 else none) else (bif Nat.beq y 206 then some pR206 else none))))) else (bif Nat.blt y 211 then (bif Nat.blt y 209 then (bif Nat.blt y 208 then (bif Nat.beq y 207 then some pR207 else none) else (bif Nat.beq y 208 then some pR208 else none)) else (bif Nat.blt y 210 then (bif Nat.beq y 209 then some pR209 else none) else (bif Nat.beq y 210 then some pR210 else none))) else (bif Nat.blt y 213 then (bif Nat.blt y 212 then (bif Nat.beq y 211 then some pR211 else none) else (bif Nat.beq y 212 then some pR212 else none)) else (bif Nat.blt y 214 then (bif Nat.beq y 213 then some pR213 else none) else (bif Nat.blt y 215 then (bif Nat.beq y 214 then some pR214 else none) else (bif Nat.beq y 215 then some pR215 else none)))))))) else (bif Nat.blt y 252 then (bif Nat.blt y 234 then (bif Nat.blt y 225 then (bif Nat.blt y 220 then (bif Nat.blt y 218 then (bif Nat.blt y 217 then (bif Nat.beq y 216 then some pR216 else none) else (bif Nat.beq y 217 then some pR217 else none)) else (bif Nat.blt y 219 then (bif Nat.beq y 218 then some pR218 else none) else (bif Nat.beq y 219 then some pR219 else none))) else (bif Nat.blt y 222 then (bif Nat.blt y 221 then (bif Nat.beq y 220 then some pR220 else none) else (bif Nat.beq y 221 then some pR221 else none)) else (bif Nat.blt y 223 then (bif Nat.beq y 222 then some pR222 else none) else (bif Nat.blt y 224 then (bif Nat.beq y 223 then some pR223 else none) else (bif Nat.beq y 224 then some pR224 else none))))) else (bif Nat.blt y 229 then (bif Nat.blt y 227 then (bif Nat.blt y 226 then (bif Nat.beq y 225 then some pR225 else none) else (bif Nat.beq y 226 then some pR226 else none)) else (bif Nat.blt y 228 then (bif Nat.beq y 227 then some pR227 else none) else (bif Nat.beq y 228 then some pR228 else none))) else (bif Nat.blt y 231 then (bif Nat.blt y 230 then (bif Nat.beq y 229 then some pR229 else none) else (bif Nat.beq y 230 then some pR230 else none)) else (bif Nat.blt y 232 then (bif Nat.beq y 231 then some pR231 else none) else (bif Nat.blt y 233 then (bif Nat.beq y 232 then some pR232 else none) else (bif Nat.beq y 233 then some pR233 else none)))))) else (bif Nat.blt y 243 then (bif Nat.blt y 238 then (bif Nat.blt y 236 then (bif Nat.blt y 235 then (bif Nat.beq y 234 then some pR234 else none) else (bif Nat.beq y 235 then some pR235 else none)) else (bif Nat.blt y 237 then (bif Nat.beq y 236 then some pR236 else none) else (bif Nat.beq y 237 then some pR237 else none))) else (bif Nat.blt y 240 then (bif Nat.blt y 239 then (bif Nat.beq y 238 then some pR238 else none) else (bif Nat.beq y 239 then some pR239 else none)) else (bif Nat.blt y 241 then (bif Nat.beq y 240 then some pR240 else none) else (bif Nat.blt y 242 then (bif Nat.beq y 241 then some pR241 else none) else (bif Nat.beq y 242 then some pR242 else none))))) else (bif Nat.blt y 247 then (bif Nat.blt y 245 then (bif Nat.blt y 244 then (bif Nat.beq y 243 then some pR243 else none) else (bif Nat.beq y 244 then some pR244 else none)) else (bif Nat.blt y 246 then (bif Nat.beq y 245 then some pR245 else none) else (bif Nat.beq y 246 then some pR246 else none))) else (bif Nat.blt y 249 then (bif Nat.blt y 248 then (bif Nat.beq y 247 then some pR247 else none) else (bif Nat.beq y 248 then some pR248 else none)) else (bif Nat.blt y 250 then (bif Nat.beq y 249 then some pR249 else none) else (bif Nat.blt y 251 then (bif Nat.beq y 250 then some pR250 else none) else (bif Nat.beq y 251 then some pR251 else none))))))) else (bif Nat.blt y 270 then (bif Nat.blt y 261 then (bif Nat.blt y 256 then (bif Nat.blt y 254 then (bif Nat.blt y 253 then (bif Nat.beq y 252 then some pR252 else none) else (bif Nat.beq y 253 then some pR253 else none)) else (bif Nat.blt y 255 then (bif Nat.beq y 254 then some pR254 else none) else (bif Nat.beq y 255 then some pR255 else none))) else (bif Nat.blt y 258 then (bif Nat.blt y 257 then (bif Nat.beq y 256 then some pR256 else none) else (bif Nat.beq y 257 then some pR257 else none)) else (bif Nat.blt y 259 then (bif Nat.beq y 258 then some pR258 else none) else (bif Nat.blt y 260 then (bif Nat.beq y 259 then some pR259 else none) else (bif Nat.beq y 260 then some pR260 else none))))) else (bif Nat.blt y 265 then (bif Nat.blt y 263 then (bif Nat.blt y 262 then (bif Nat.beq y 261 then some pR261 else none) else (bif Nat.beq y 262 then some pR262 else none)) else (bif Nat.blt y 264 then (bif Nat.beq y 263 then some pR263 else none) else (bif Nat.beq y 264 then some pR264 else none))) else (bif Nat.blt y 267 then (bif Nat.blt y 266 then (bif Nat.beq y 265 then some pR265 else none) else (bif Nat.beq y 266 then some pR266 else none)) else (bif Nat.blt y 268 then (bif Nat.beq y 267 then some pR267 else none) else (bif Nat.blt y 269 then (bif Nat.beq y 268 then some pR268 else none) else (bif Nat.beq y 269 then some pR269 else none)))))) else (bif Nat.blt y 279 then (bif Nat.blt y 274 then (bif Nat.blt y 272 then (bif Nat.blt y 271 then (bif Nat.beq y 270 then some pR270 else none) else (bif Nat.beq y 271 then some pR271 else none)) else (bif Nat.blt y 273 then (bif Nat.beq y 272 then some pR272 else none) else (bif Nat.beq y 273 then some pR273 else none))) else (bif Nat.blt y 276 then (bif Nat.blt y 275 then (bif Nat.beq y 274 then some pR274 else none) else (bif Nat.beq y 275 then some pR275 else none)) else (bif Nat.blt y 277 then (bif Nat.beq y 276 then some pR276 else none) else (bif Nat.blt y 278 then (bif Nat.beq y 277 then some pR277 else none) else (bif Nat.beq y 278 then some pR278 else none))))) else (bif Nat.blt y 283 then (bif Nat.blt y 281 then (bif Nat.blt y 280 then (bif Nat.beq y 279 then some pR279 else none) else (bif Nat.beq y 280 then some pR280 else none)) else (bif Nat.blt y 282 then (bif Nat.beq y 281 then some pR281 else none) else (bif Nat.beq y 282 then some pR282 else none))) else (bif Nat.blt y 285 then (bif Nat.blt y 284 then (bif Nat.beq y 283 then some pR283 else none) else (bif Nat.beq y 284 then some pR284 else none)) else (bif Nat.blt y 286 then (bif Nat.beq y 285 then some pR285 else none) else (bif Nat.blt y 287 then (bif Nat.beq y 286 then some pR286 else none) else (bif Nat.beq y 287 then some pR287 else none))))))))))
