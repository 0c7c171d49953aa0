/-! fresh: both are alike -/
def xCG : List xCel := [(6, [.ref 1, .ref 42, .ref 6, .int 1, .ref 43, .ref 57, .ref 71, .int 0, .ref 7, .ref 9]),
  (4, [.int 40, .ref 2, .ref 3, .ref 4, .ref 5, .int 34]),
  (100, [.int 304, .int 302, .int 59, .int 305, .int 302, .int 59, .int 306, .int 303, .int 59, .int 300, .int 0, .int 0, .int 0, .int 0, .int 0, .int 0, .int 0, .int 0, .int 0, .int 0, .int 0, .int 0, .int 0, .int 0, .int 0, .int 0, .int 0, .int 0, .int 0, .int 0, .int 0, .int 0, .int 0, .int 0, .int 0, .int 0, .int 0, .int 0, .int 0, .int 0, .int 0, .int 0, .int 0, .int 0, .int 0, .int 0, .int 0, .int 0, .int 0, .int 0, .int 0, .int 0, .int 0, .int 0, .int 0, .int 0, .int 0, .int 0, .int 0, .int 0, .int 0, .int 0, .int 0, .int 0, .int 0, .int 0, .int 0, .int 0, .int 0, .int 0, .int 0, .int 0, .int 0, .int 0, .int 0, .int 0, .int 0, .int 0, .int 0, .int 0, .int 0, .int 0, .int 0, .int 0, .int 0, .int 0, .int 0, .int 0, .int 0, .int 0, .int 0, .int 0, .int 0, .int 0, .int 0, .int 0, .int 0, .int 0, .int 0, .int 0, .int 0, .int 0, .int 0, .int 0, .int 0, .int 0, .int 0, .int 0, .int 0, .int 0, .int 0, .int 0, .int 0, .int 0, .int 0, .int 0, .int 0, .int 0, .int 0, .int 0, .int 0, .int 0, .int 0, .int 0, .int 0, .int 0, .int 0, .int 0, .int 0, .int 0, .int 0, .int 0, .int 0, .int 0, .int 0, .int 0, .int 0, .int 0, .int 0, .int 0, .int 0, .int 0, .int 0, .int 0, .int 0, .int 0, .int 0, .int 0, .int 0, .int 0, .int 0, .int 0, .int 0, .int 0, .int 0, .int 0, .int 0, .int 0, .int 0, .int 0, .int 0]),
  (100, [.int 0, .int 6, .int 8, .int 10, .int 16, .int 18, .int 20, .int 27, .int 33, .int 34, .int 0, .int 0, .int 0, .int 0, .int 0, .int 0, .int 0, .int 0, .int 0, .int 0, .int 0, .int 0, .int 0, .int 0, .int 0, .int 0, .int 0, .int 0, .int 0, .int 0, .int 0, .int 0, .int 0, .int 0, .int 0, .int 0, .int 0, .int 0, .int 0, .int 0, .int 0, .int 0, .int 0, .int 0, .int 0, .int 0, .int 0, .int 0, .int 0, .int 0, .int 0, .int 0, .int 0, .int 0, .int 0, .int 0, .int 0, .int 0, .int 0, .int 0, .int 0, .int 0, .int 0, .int 0, .int 0, .int 0, .int 0, .int 0, .int 0, .int 0, .int 0, .int 0, .int 0, .int 0, .int 0, .int 0, .int 0, .int 0, .int 0, .int 0, .int 0, .int 0, .int 0, .int 0, .int 0, .int 0, .int 0, .int 0, .int 0, .int 0, .int 0, .int 0, .int 0, .int 0, .int 0, .int 0, .int 0, .int 0, .int 0, .int 0, .int 0, .int 0, .int 0, .int 0, .int 0, .int 0, .int 0, .int 0, .int 0, .int 0, .int 0, .int 0, .int 0, .int 0, .int 0, .int 0, .int 0, .int 0, .int 0, .int 0, .int 0, .int 0, .int 0, .int 0, .int 0, .int 0, .int 0, .int 0, .int 0, .int 0, .int 0, .int 0, .int 0, .int 0, .int 0, .int 0, .int 0, .int 0, .int 0, .int 0, .int 0, .int 0, .int 0, .int 0, .int 0, .int 0, .int 0, .int 0, .int 0, .int 0, .int 0, .int 0, .int 0, .int 0, .int 0, .int 0, .int 0, .int 0, .int 0, .int 0, .int 0]),
  (100, [.int 0, .int 5, .int 0, .int 0, .int 2, .int 0, .int 0, .int (-4), .int 0, .int 0, .int 0, .int 0, .int 0, .int 0, .int 0, .int 0, .int 0, .int 0, .int 0, .int 0, .int 0, .int 0, .int 0, .int 0, .int 0, .int 0, .int 0, .int 0, .int 0, .int 0, .int 0, .int 0, .int 0, .int 0, .int 0, .int 0, .int 0, .int 0, .int 0, .int 0, .int 0, .int 0, .int 0, .int 0, .int 0, .int 0, .int 0, .int 0, .int 0, .int 0, .int 0, .int 0, .int 0, .int 0, .int 0, .int 0, .int 0, .int 0, .int 0, .int 0, .int 0, .int 0, .int 0, .int 0, .int 0, .int 0, .int 0, .int 0, .int 0, .int 0, .int 0, .int 0, .int 0, .int 0, .int 0, .int 0, .int 0, .int 0, .int 0, .int 0, .int 0, .int 0, .int 0, .int 0, .int 0, .int 0, .int 0, .int 0, .int 0, .int 0, .int 0, .int 0, .int 0, .int 0, .int 0, .int 0, .int 0, .int 0, .int 0, .int 0, .int 0, .int 0, .int 0, .int 0, .int 0, .int 0, .int 0, .int 0, .int 0, .int 0, .int 0, .int 0, .int 0, .int 0, .int 0, .int 0, .int 0, .int 0, .int 0, .int 0, .int 0, .int 0, .int 0, .int 0, .int 0, .int 0, .int 0, .int 0, .int 0, .int 0, .int 0, .int 0, .int 0, .int 0, .int 0, .int 0, .int 0, .int 0, .int 0, .int 0, .int 0, .int 0, .int 0, .int 0, .int 0, .int 0, .int 0, .int 0, .int 0, .int 0, .int 0, .int 0, .int 0, .int 0, .int 0, .int 0, .int 0, .int 0, .int 0, .int 0, .int 0]),
  (100, [.int 109, .int 101, .int 101, .int 116, .int 115, .int 32, .int 53, .int 32, .int 59, .int 32, .int 102, .int 97, .int 100, .int 101, .int 115, .int 32, .int 50, .int 32, .int 59, .int 32, .int 115, .int 111, .int 117, .int 110, .int 100, .int 115, .int 32, .int 115, .int 101, .int 97, .int 116, .int 115, .int 32, .int 59, .int 32, .int 32, .int 32, .int 32, .int 32, .int 32, .int 0, .int 0, .int 0, .int 0, .int 0, .int 0, .int 0, .int 0, .int 0, .int 0, .int 0, .int 0, .int 0, .int 0, .int 0, .int 0, .int 0, .int 0, .int 0, .int 0, .int 0, .int 0, .int 0, .int 0, .int 0, .int 0, .int 0, .int 0, .int 0, .int 0, .int 0, .int 0, .int 0, .int 0, .int 0, .int 0, .int 0, .int 0, .int 0, .int 0, .int 0, .int 0, .int 0, .int 0, .int 0, .int 0, .int 0, .int 0, .int 0, .int 0, .int 0, .int 0, .int 0, .int 0, .int 0, .int 0, .int 0, .int 0, .int 0, .int 0, .int 0, .int 0, .int 0, .int 0, .int 0, .int 0, .int 0, .int 0, .int 0, .int 0, .int 0, .int 0, .int 0, .int 0, .int 0, .int 0, .int 0, .int 0, .int 0, .int 0, .int 0, .int 0, .int 0, .int 0, .int 0, .int 0, .int 0, .int 0, .int 0, .int 0, .int 0, .int 0, .int 0, .int 0, .int 0, .int 0, .int 0, .int 0, .int 0, .int 0, .int 0, .int 0, .int 0, .int 0, .int 0, .int 0, .int 0, .int 0, .int 0, .int 0, .int 0, .int 0, .int 0, .int 0, .int 0, .int 0, .int 0, .int 0, .int 0, .int 0]),
  (102, [.ref 10, .ref 14, .ref 18, .ref 22, .ref 26, .ref 30]),
  (0, [.int 0, .ref 8]),
  (100, [.int 0, .int 0, .int 0, .int 0, .int 0, .int 0, .int 0, .int 0]),
  (103, [.ref 34, .ref 36, .ref 38, .ref 40]),
  (5, [.int 0, .int 3, .ref 11, .ref 12, .ref 13]),
  (100, [.int 5, .int 2, .int (-4), .int 0, .int 0, .int 0, .int 0, .int 0, .int 0, .int 0, .int 0, .int 0, .int 0, .int 0, .int 0, .int 0, .int 0, .int 0, .int 0, .int 0, .int 0, .int 0, .int 0, .int 0, .int 0, .int 0, .int 0, .int 0, .int 0, .int 0, .int 0, .int 0, .int 0, .int 0, .int 0, .int 0, .int 0, .int 0, .int 0, .int 0, .int 0, .int 0, .int 0, .int 0, .int 0, .int 0, .int 0, .int 0, .int 0, .int 0, .int 0, .int 0, .int 0, .int 0, .int 0, .int 0, .int 0, .int 0, .int 0, .int 0, .int 0, .int 0, .int 0, .int 0, .int 0, .int 0, .int 0, .int 0, .int 0, .int 0, .int 0, .int 0, .int 0, .int 0, .int 0, .int 0, .int 0, .int 0, .int 0, .int 0, .int 0, .int 0, .int 0, .int 0, .int 0, .int 0, .int 0, .int 0, .int 0, .int 0, .int 0, .int 0, .int 0, .int 0, .int 0, .int 0, .int 0, .int 0, .int 0, .int 0, .int 0, .int 0, .int 0, .int 0, .int 0, .int 0, .int 0, .int 0, .int 0, .int 0, .int 0, .int 0, .int 0, .int 0, .int 0, .int 0, .int 0, .int 0, .int 0, .int 0, .int 0, .int 0, .int 0, .int 0, .int 0, .int 0, .int 0, .int 0, .int 0, .int 0, .int 0, .int 0, .int 0, .int 0, .int 0, .int 0, .int 0, .int 0, .int 0, .int 0, .int 0, .int 0, .int 0, .int 0, .int 0, .int 0, .int 0, .int 0, .int 0, .int 0, .int 0, .int 0, .int 0, .int 0, .int 0, .int 0, .int 0, .int 0, .int 0, .int 0]),
  (100, [.int 1, .int 2, .int 3]),
  (100, [.int 0, .int 0, .int 0, .int 0, .int 0, .int 0, .int 0, .int 0, .int 0, .int 0, .int 0, .int 0, .int 0, .int 0, .int 0, .int 0, .int 0, .int 0, .int 0, .int 0, .int 0, .int 0, .int 0, .int 0, .int 0, .int 0, .int 0, .int 0, .int 0, .int 0, .int 0, .int 0, .int 0, .int 0, .int 0, .int 0, .int 0, .int 0, .int 0, .int 0]),
  (5, [.int 1, .int 0, .ref 15, .ref 16, .ref 17]),
  (100, [.int 0, .int 0, .int 0, .int 0, .int 0, .int 0, .int 0, .int 0, .int 0, .int 0, .int 0, .int 0, .int 0, .int 0, .int 0, .int 0, .int 0, .int 0, .int 0, .int 0, .int 0, .int 0, .int 0, .int 0, .int 0, .int 0, .int 0, .int 0, .int 0, .int 0, .int 0, .int 0, .int 0, .int 0, .int 0, .int 0, .int 0, .int 0, .int 0, .int 0, .int 0, .int 0, .int 0, .int 0, .int 0, .int 0, .int 0, .int 0, .int 0, .int 0, .int 0, .int 0, .int 0, .int 0, .int 0, .int 0, .int 0, .int 0, .int 0, .int 0, .int 0, .int 0, .int 0, .int 0, .int 0, .int 0, .int 0, .int 0, .int 0, .int 0, .int 0, .int 0, .int 0, .int 0, .int 0, .int 0, .int 0, .int 0, .int 0, .int 0, .int 0, .int 0, .int 0, .int 0, .int 0, .int 0, .int 0, .int 0, .int 0, .int 0, .int 0, .int 0, .int 0, .int 0, .int 0, .int 0, .int 0, .int 0, .int 0, .int 0, .int 0, .int 0, .int 0, .int 0, .int 0, .int 0, .int 0, .int 0, .int 0, .int 0, .int 0, .int 0, .int 0, .int 0, .int 0, .int 0, .int 0, .int 0, .int 0, .int 0, .int 0, .int 0, .int 0, .int 0, .int 0, .int 0, .int 0, .int 0, .int 0, .int 0, .int 0, .int 0, .int 0, .int 0, .int 0, .int 0, .int 0, .int 0, .int 0, .int 0, .int 0, .int 0, .int 0, .int 0, .int 0, .int 0, .int 0, .int 0, .int 0, .int 0, .int 0, .int 0, .int 0, .int 0, .int 0, .int 0, .int 0, .int 0, .int 0, .int 0]),
  (100, [.int 0, .int 0, .int 0]),
  (100, [.int 0, .int 0, .int 0, .int 0, .int 0, .int 0, .int 0, .int 0, .int 0, .int 0, .int 0, .int 0, .int 0, .int 0, .int 0, .int 0, .int 0, .int 0, .int 0, .int 0, .int 0, .int 0, .int 0, .int 0, .int 0, .int 0, .int 0, .int 0, .int 0, .int 0, .int 0, .int 0, .int 0, .int 0, .int 0, .int 0, .int 0, .int 0, .int 0, .int 0]),
  (5, [.int 2, .int 0, .ref 19, .ref 20, .ref 21]),
  (100, [.int 0, .int 0, .int 0, .int 0, .int 0, .int 0, .int 0, .int 0, .int 0, .int 0, .int 0, .int 0, .int 0, .int 0, .int 0, .int 0, .int 0, .int 0, .int 0, .int 0, .int 0, .int 0, .int 0, .int 0, .int 0, .int 0, .int 0, .int 0, .int 0, .int 0, .int 0, .int 0, .int 0, .int 0, .int 0, .int 0, .int 0, .int 0, .int 0, .int 0, .int 0, .int 0, .int 0, .int 0, .int 0, .int 0, .int 0, .int 0, .int 0, .int 0, .int 0, .int 0, .int 0, .int 0, .int 0, .int 0, .int 0, .int 0, .int 0, .int 0, .int 0, .int 0, .int 0, .int 0, .int 0, .int 0, .int 0, .int 0, .int 0, .int 0, .int 0, .int 0, .int 0, .int 0, .int 0, .int 0, .int 0, .int 0, .int 0, .int 0, .int 0, .int 0, .int 0, .int 0, .int 0, .int 0, .int 0, .int 0, .int 0, .int 0, .int 0, .int 0, .int 0, .int 0, .int 0, .int 0, .int 0, .int 0, .int 0, .int 0, .int 0, .int 0, .int 0, .int 0, .int 0, .int 0, .int 0, .int 0, .int 0, .int 0, .int 0, .int 0, .int 0, .int 0, .int 0, .int 0, .int 0, .int 0, .int 0, .int 0, .int 0, .int 0, .int 0, .int 0, .int 0, .int 0, .int 0, .int 0, .int 0, .int 0, .int 0, .int 0, .int 0, .int 0, .int 0, .int 0, .int 0, .int 0, .int 0, .int 0, .int 0, .int 0, .int 0, .int 0, .int 0, .int 0, .int 0, .int 0, .int 0, .int 0, .int 0, .int 0, .int 0, .int 0, .int 0, .int 0, .int 0, .int 0, .int 0, .int 0]),
  (100, [.int 0, .int 0, .int 0]),
  (100, [.int 0, .int 0, .int 0, .int 0, .int 0, .int 0, .int 0, .int 0, .int 0, .int 0, .int 0, .int 0, .int 0, .int 0, .int 0, .int 0, .int 0, .int 0, .int 0, .int 0, .int 0, .int 0, .int 0, .int 0, .int 0, .int 0, .int 0, .int 0, .int 0, .int 0, .int 0, .int 0, .int 0, .int 0, .int 0, .int 0, .int 0, .int 0, .int 0, .int 0]),
  (5, [.int 3, .int 0, .ref 23, .ref 24, .ref 25]),
  (100, [.int 0, .int 0, .int 0, .int 0, .int 0, .int 0, .int 0, .int 0, .int 0, .int 0, .int 0, .int 0, .int 0, .int 0, .int 0, .int 0, .int 0, .int 0, .int 0, .int 0, .int 0, .int 0, .int 0, .int 0, .int 0, .int 0, .int 0, .int 0, .int 0, .int 0, .int 0, .int 0, .int 0, .int 0, .int 0, .int 0, .int 0, .int 0, .int 0, .int 0, .int 0, .int 0, .int 0, .int 0, .int 0, .int 0, .int 0, .int 0, .int 0, .int 0, .int 0, .int 0, .int 0, .int 0, .int 0, .int 0, .int 0, .int 0, .int 0, .int 0, .int 0, .int 0, .int 0, .int 0, .int 0, .int 0, .int 0, .int 0, .int 0, .int 0, .int 0, .int 0, .int 0, .int 0, .int 0, .int 0, .int 0, .int 0, .int 0, .int 0, .int 0, .int 0, .int 0, .int 0, .int 0, .int 0, .int 0, .int 0, .int 0, .int 0, .int 0, .int 0, .int 0, .int 0, .int 0, .int 0, .int 0, .int 0, .int 0, .int 0, .int 0, .int 0, .int 0, .int 0, .int 0, .int 0, .int 0, .int 0, .int 0, .int 0, .int 0, .int 0, .int 0, .int 0, .int 0, .int 0, .int 0, .int 0, .int 0, .int 0, .int 0, .int 0, .int 0, .int 0, .int 0, .int 0, .int 0, .int 0, .int 0, .int 0, .int 0, .int 0, .int 0, .int 0, .int 0, .int 0, .int 0, .int 0, .int 0, .int 0, .int 0, .int 0, .int 0, .int 0, .int 0, .int 0, .int 0, .int 0, .int 0, .int 0, .int 0, .int 0, .int 0, .int 0, .int 0, .int 0, .int 0, .int 0, .int 0, .int 0]),
  (100, [.int 0, .int 0, .int 0]),
  (100, [.int 0, .int 0, .int 0, .int 0, .int 0, .int 0, .int 0, .int 0, .int 0, .int 0, .int 0, .int 0, .int 0, .int 0, .int 0, .int 0, .int 0, .int 0, .int 0, .int 0, .int 0, .int 0, .int 0, .int 0, .int 0, .int 0, .int 0, .int 0, .int 0, .int 0, .int 0, .int 0, .int 0, .int 0, .int 0, .int 0, .int 0, .int 0, .int 0, .int 0]),
  (5, [.int 4, .int 0, .ref 27, .ref 28, .ref 29]),
  (100, [.int 0, .int 0, .int 0, .int 0, .int 0, .int 0, .int 0, .int 0, .int 0, .int 0, .int 0, .int 0, .int 0, .int 0, .int 0, .int 0, .int 0, .int 0, .int 0, .int 0, .int 0, .int 0, .int 0, .int 0, .int 0, .int 0, .int 0, .int 0, .int 0, .int 0, .int 0, .int 0, .int 0, .int 0, .int 0, .int 0, .int 0, .int 0, .int 0, .int 0, .int 0, .int 0, .int 0, .int 0, .int 0, .int 0, .int 0, .int 0, .int 0, .int 0, .int 0, .int 0, .int 0, .int 0, .int 0, .int 0, .int 0, .int 0, .int 0, .int 0, .int 0, .int 0, .int 0, .int 0, .int 0, .int 0, .int 0, .int 0, .int 0, .int 0, .int 0, .int 0, .int 0, .int 0, .int 0, .int 0, .int 0, .int 0, .int 0, .int 0, .int 0, .int 0, .int 0, .int 0, .int 0, .int 0, .int 0, .int 0, .int 0, .int 0, .int 0, .int 0, .int 0, .int 0, .int 0, .int 0, .int 0, .int 0, .int 0, .int 0, .int 0, .int 0, .int 0, .int 0, .int 0, .int 0, .int 0, .int 0, .int 0, .int 0, .int 0, .int 0, .int 0, .int 0, .int 0, .int 0, .int 0, .int 0, .int 0, .int 0, .int 0, .int 0, .int 0, .int 0, .int 0, .int 0, .int 0, .int 0, .int 0, .int 0, .int 0, .int 0, .int 0, .int 0, .int 0, .int 0, .int 0, .int 0, .int 0, .int 0, .int 0, .int 0, .int 0, .int 0, .int 0, .int 0, .int 0, .int 0, .int 0, .int 0, .int 0, .int 0, .int 0, .int 0, .int 0, .int 0, .int 0, .int 0, .int 0, .int 0]),
  (100, [.int 0, .int 0, .int 0]),
  (100, [.int 0, .int 0, .int 0, .int 0, .int 0, .int 0, .int 0, .int 0, .int 0, .int 0, .int 0, .int 0, .int 0, .int 0, .int 0, .int 0, .int 0, .int 0, .int 0, .int 0, .int 0, .int 0, .int 0, .int 0, .int 0, .int 0, .int 0, .int 0, .int 0, .int 0, .int 0, .int 0, .int 0, .int 0, .int 0, .int 0, .int 0, .int 0, .int 0, .int 0]),
  (5, [.int 5, .int 0, .ref 31, .ref 32, .ref 33]),
  (100, [.int 0, .int 0, .int 0, .int 0, .int 0, .int 0, .int 0, .int 0, .int 0, .int 0, .int 0, .int 0, .int 0, .int 0, .int 0, .int 0, .int 0, .int 0, .int 0, .int 0, .int 0, .int 0, .int 0, .int 0, .int 0, .int 0, .int 0, .int 0, .int 0, .int 0, .int 0, .int 0, .int 0, .int 0, .int 0, .int 0, .int 0, .int 0, .int 0, .int 0, .int 0, .int 0, .int 0, .int 0, .int 0, .int 0, .int 0, .int 0, .int 0, .int 0, .int 0, .int 0, .int 0, .int 0, .int 0, .int 0, .int 0, .int 0, .int 0, .int 0, .int 0, .int 0, .int 0, .int 0, .int 0, .int 0, .int 0, .int 0, .int 0, .int 0, .int 0, .int 0, .int 0, .int 0, .int 0, .int 0, .int 0, .int 0, .int 0, .int 0, .int 0, .int 0, .int 0, .int 0, .int 0, .int 0, .int 0, .int 0, .int 0, .int 0, .int 0, .int 0, .int 0, .int 0, .int 0, .int 0, .int 0, .int 0, .int 0, .int 0, .int 0, .int 0, .int 0, .int 0, .int 0, .int 0, .int 0, .int 0, .int 0, .int 0, .int 0, .int 0, .int 0, .int 0, .int 0, .int 0, .int 0, .int 0, .int 0, .int 0, .int 0, .int 0, .int 0, .int 0, .int 0, .int 0, .int 0, .int 0, .int 0, .int 0, .int 0, .int 0, .int 0, .int 0, .int 0, .int 0, .int 0, .int 0, .int 0, .int 0, .int 0, .int 0, .int 0, .int 0, .int 0, .int 0, .int 0, .int 0, .int 0, .int 0, .int 0, .int 0, .int 0, .int 0, .int 0, .int 0, .int 0, .int 0, .int 0, .int 0]),
  (100, [.int 0, .int 0, .int 0]),
  (100, [.int 0, .int 0, .int 0, .int 0, .int 0, .int 0, .int 0, .int 0, .int 0, .int 0, .int 0, .int 0, .int 0, .int 0, .int 0, .int 0, .int 0, .int 0, .int 0, .int 0, .int 0, .int 0, .int 0, .int 0, .int 0, .int 0, .int 0, .int 0, .int 0, .int 0, .int 0, .int 0, .int 0, .int 0, .int 0, .int 0, .int 0, .int 0, .int 0, .int 0]),
  (2, [.int (-1), .int 0, .ref 35]),
  (100, [.int 0, .int 0, .int 0, .int 0, .int 0, .int 0, .int 0, .int 0, .int 0, .int 0, .int 0, .int 0, .int 0, .int 0, .int 0, .int 0, .int 0, .int 0, .int 0, .int 0, .int 0, .int 0, .int 0, .int 0, .int 0, .int 0, .int 0, .int 0, .int 0, .int 0, .int 0, .int 0, .int 0, .int 0, .int 0, .int 0, .int 0, .int 0, .int 0, .int 0]),
  (2, [.int (-1), .int 0, .ref 37]),
  (100, [.int 0, .int 0, .int 0, .int 0, .int 0, .int 0, .int 0, .int 0, .int 0, .int 0, .int 0, .int 0, .int 0, .int 0, .int 0, .int 0, .int 0, .int 0, .int 0, .int 0, .int 0, .int 0, .int 0, .int 0, .int 0, .int 0, .int 0, .int 0, .int 0, .int 0, .int 0, .int 0, .int 0, .int 0, .int 0, .int 0, .int 0, .int 0, .int 0, .int 0]),
  (2, [.int (-1), .int 0, .ref 39]),
  (100, [.int 0, .int 0, .int 0, .int 0, .int 0, .int 0, .int 0, .int 0, .int 0, .int 0, .int 0, .int 0, .int 0, .int 0, .int 0, .int 0, .int 0, .int 0, .int 0, .int 0, .int 0, .int 0, .int 0, .int 0, .int 0, .int 0, .int 0, .int 0, .int 0, .int 0, .int 0, .int 0, .int 0, .int 0, .int 0, .int 0, .int 0, .int 0, .int 0, .int 0]),
  (2, [.int (-1), .int 0, .ref 41]),
  (100, [.int 0, .int 0, .int 0, .int 0, .int 0, .int 0, .int 0, .int 0, .int 0, .int 0, .int 0, .int 0, .int 0, .int 0, .int 0, .int 0, .int 0, .int 0, .int 0, .int 0, .int 0, .int 0, .int 0, .int 0, .int 0, .int 0, .int 0, .int 0, .int 0, .int 0, .int 0, .int 0, .int 0, .int 0, .int 0, .int 0, .int 0, .int 0, .int 0, .int 0]),
  (1, [.ref 1, .ref 10, .int 9, .int 300, .int (-1)]),
  (3, [.int 0, .int 20, .int 0, .ref 10, .ref 44, .ref 45, .ref 46, .ref 47, .ref 56]),
  (100, [.int 0, .int 0, .int 0, .int 0, .int 0, .int 0, .int 0, .int 0]),
  (100, [.int 0, .int 0, .int 0, .int 0, .int 0, .int 0, .int 0, .int 0]),
  (100, [.int 0, .int 0, .int 0, .int 0, .int 0, .int 0, .int 0, .int 0]),
  (104, [.ref 48, .ref 49, .ref 50, .ref 51, .ref 52, .ref 53, .ref 54, .ref 55]),
  (100, [.int 0, .int 0, .int 0, .int 0, .int 0, .int 0, .int 0, .int 0]),
  (100, [.int 0, .int 0, .int 0, .int 0, .int 0, .int 0, .int 0, .int 0]),
  (100, [.int 0, .int 0, .int 0, .int 0, .int 0, .int 0, .int 0, .int 0]),
  (100, [.int 0, .int 0, .int 0, .int 0, .int 0, .int 0, .int 0, .int 0]),
  (100, [.int 0, .int 0, .int 0, .int 0, .int 0, .int 0, .int 0, .int 0]),
  (100, [.int 0, .int 0, .int 0, .int 0, .int 0, .int 0, .int 0, .int 0]),
  (100, [.int 0, .int 0, .int 0, .int 0, .int 0, .int 0, .int 0, .int 0]),
  (100, [.int 0, .int 0, .int 0, .int 0, .int 0, .int 0, .int 0, .int 0]),
  (100, [.int 0, .int 0, .int 0, .int 0, .int 0, .int 0]),
  (3, [.int 0, .int 20, .int 0, .ref 10, .ref 58, .ref 59, .ref 60, .ref 61, .ref 70]),
  (100, [.int 0, .int 0, .int 0, .int 0, .int 0, .int 0, .int 0, .int 0]),
  (100, [.int 0, .int 0, .int 0, .int 0, .int 0, .int 0, .int 0, .int 0]),
  (100, [.int 0, .int 0, .int 0, .int 0, .int 0, .int 0, .int 0, .int 0]),
  (104, [.ref 62, .ref 63, .ref 64, .ref 65, .ref 66, .ref 67, .ref 68, .ref 69]),
  (100, [.int 0, .int 0, .int 0, .int 0, .int 0, .int 0, .int 0, .int 0]),
  (100, [.int 0, .int 0, .int 0, .int 0, .int 0, .int 0, .int 0, .int 0]),
  (100, [.int 0, .int 0, .int 0, .int 0, .int 0, .int 0, .int 0, .int 0]),
  (100, [.int 0, .int 0, .int 0, .int 0, .int 0, .int 0, .int 0, .int 0]),
  (100, [.int 0, .int 0, .int 0, .int 0, .int 0, .int 0, .int 0, .int 0]),
  (100, [.int 0, .int 0, .int 0, .int 0, .int 0, .int 0, .int 0, .int 0]),
  (100, [.int 0, .int 0, .int 0, .int 0, .int 0, .int 0, .int 0, .int 0]),
  (100, [.int 0, .int 0, .int 0, .int 0, .int 0, .int 0, .int 0, .int 0]),
  (100, [.int 0, .int 0, .int 0, .int 0, .int 0, .int 0]),
  (3, [.int 0, .int 20, .int 0, .ref 10, .ref 72, .ref 73, .ref 74, .ref 75, .ref 84]),
  (100, [.int 0, .int 0, .int 0, .int 0, .int 0, .int 0, .int 0, .int 0]),
  (100, [.int 0, .int 0, .int 0, .int 0, .int 0, .int 0, .int 0, .int 0]),
  (100, [.int 0, .int 0, .int 0, .int 0, .int 0, .int 0, .int 0, .int 0]),
  (104, [.ref 76, .ref 77, .ref 78, .ref 79, .ref 80, .ref 81, .ref 82, .ref 83]),
  (100, [.int 0, .int 0, .int 0, .int 0, .int 0, .int 0, .int 0, .int 0]),
  (100, [.int 0, .int 0, .int 0, .int 0, .int 0, .int 0, .int 0, .int 0]),
  (100, [.int 0, .int 0, .int 0, .int 0, .int 0, .int 0, .int 0, .int 0]),
  (100, [.int 0, .int 0, .int 0, .int 0, .int 0, .int 0, .int 0, .int 0]),
  (100, [.int 0, .int 0, .int 0, .int 0, .int 0, .int 0, .int 0, .int 0]),
  (100, [.int 0, .int 0, .int 0, .int 0, .int 0, .int 0, .int 0, .int 0]),
  (100, [.int 0, .int 0, .int 0, .int 0, .int 0, .int 0, .int 0, .int 0]),
  (100, [.int 0, .int 0, .int 0, .int 0, .int 0, .int 0, .int 0, .int 0]),
  (100, [.int 0, .int 0, .int 0, .int 0, .int 0, .int 0])]
def chkR (r : Option (List xLf)) : Bool := match r with
  | some [(some (.int x), C, [])] => decide (x = -1) && (decide (C[11]? = xC0[11]?) && decide (C[12]? = xC0[12]?))
  | _ => false
theorem chkR_ok {r : Option (List xLf)} (h : chkR r = true) : ∃ C, r = some [(some (.int (-1)), C, [])] ∧ C[11]? = xC0[11]? ∧ C[12]? = xC0[12]? := by
  unfold chkR at h
  split at h
  · next x C =>
    simp only [Bool.and_eq_true, decide_eq_true_eq] at h
    obtain ⟨rfl, h2, h3⟩ := h
    exact ⟨C, rfl, h2, h3⟩
  · cases h
set_option maxRecDepth 100000 in
theorem xCG_ok : chkR (xexec xK 13 11 [.ref 42, .ref 10] xCG []) = true := by decide +kernel
noncomputable section
set_option maxRecDepth 100000 in
theorem xCG_d : xCG = dC shC (hOf xCG) := chkD_ok (by decide +kernel)
set_option maxRecDepth 100000 in
theorem invC_G : InvC (hOf xCG) := chk_ok (by decide +kernel) bndC0
theorem xlift_n : ∀ (n k d : Nat), xLe (xexec k d) (xexec k (d + n))
  | 0, _, _ => fun _ _ _ _ _ h => h
  | n + 1, k, d => fun j as C rg l h => xexec_lift k (d + n) j as C rg l (xlift_n n k d j as C rg l h)
theorem row_eq {g h : dH} {a n : Nat} (hq : zA shC a n) (e : (dC shC g)[a]? = (dC shC h)[a]?) {k : Nat} (hk : k < n) : g a k = h a k := by
  have hq' : shC[a]? = some (100, List.replicate n 0) := hq
  have e1 : (dC shC g)[a]? = some (100, dcell (g a) (List.replicate n 0)) := by simp [dC, hq']
  have e2 : (dC shC h)[a]? = some (100, dcell (h a) (List.replicate n 0)) := by simp [dC, hq']
  rw [e1, e2] at e
  have e3 : dcell (g a) (List.replicate n 0) = dcell (h a) (List.replicate n 0) := congrArg Prod.snd (Option.some.inj e)
  have c : ∀ f : Nat → Int32, (dcell f (List.replicate n 0))[k]? = some (.int (f k)) := fun f => by
    simp [dcell, List.getElem?_mapIdx, List.getElem?_replicate, hk, ddec]
  have e4 := (c (g a)).symm.trans ((congrArg (fun l => l[k]?) e3).trans (c (h a)))
  exact Value.int.inj (Option.some.inj e4)
theorem lf_inj {x y : Int32} {C D : List xCel} (e : (some [(some (Value.int x), C, ([] : xRG))] : Option (List xLf)) = some [(some (Value.int y), D, [])]) : x = y ∧ C = D := by
  cases e; exact ⟨rfl, rfl⟩
theorem run_eq {k1 k2 d1 d2 n j : Nat} {as : List Value} {C0 C1 C2 : List xCel} {x y : Int32} (hd : d2 = d1 + n) (h1 : xexec k1 d1 j as C0 [] = some [(some (.int x), C1, [])]) (h2 : xexec k2 d2 j as C0 [] = some [(some (.int y), C2, [])]) : x = y ∧ C1 = C2 := by
  subst hd
  have a1 := xexec_mono k1 k2 (d1 + n) _ _ _ _ _ (xlift_n n k1 d1 _ _ _ _ _ h1)
  have a2 := xexec_mono k2 k1 (d1 + n) _ _ _ _ _ h2
  rw [Nat.add_comm k2 k1] at a2
  exact lf_inj (a1.symm.trans a2)
theorem exR_f {nm f f' : Nat → Int32} : ∀ (m a : Nat) (st : List Int32), (∀ j, a ≤ j → j < a + m → f j = f' j) → exR nm f m a st = exR nm f' m a st
  | 0, _, _, _ => rfl
  | m + 1, a, st, h => by
    rw [exR, exR, h a (by omega) (by omega)]
    cases ex1 nm (f' a) st with
    | none => rfl
    | some st' => exact exR_f m (a + 1) st' (fun j x y => h j (by omega) (by omega))
theorem Sem.same3 {gC hC hM : dH} {t : Nat} (q : Sem hC hM t) (e1 : ∀ k, k < 160 → gC (10 + 4 * t + 1) k = hC (10 + 4 * t + 1) k) (e2 : ∀ k, k < 3 → gC (10 + 4 * t + 2) k = hC (10 + 4 * t + 2) k) : Sem gC hM t := by
  obtain ⟨q1, q2, q3⟩ := q
  have a : ∀ pt, pt < 3 → tA gC (10 + 4 * t) pt = tA hC (10 + 4 * t) pt := fun pt hp => by unfold tA; rw [e2 (pt - 1) (by omega)]
  have b : ∀ pt, pt < 3 → tB gC (10 + 4 * t) pt = tB hC (10 + 4 * t) pt := fun pt hp => by unfold tB; rw [e2 pt hp]
  have ev : ∀ nm pt, pt < 3 → tEv gC (10 + 4 * t) nm pt = tEv hC (10 + 4 * t) nm pt := fun nm pt hp => by
    unfold tEv
    rw [a pt hp, b pt hp]
    have k := q1 pt hp
    refine exR_f _ _ _ (fun j x y => e1 j ?_)
    unfold tB at y k
    omega
  refine ⟨fun pt hp => ?_, fun nm pt hp => by rw [ev nm pt hp]; exact q2 nm pt hp, fun h' v1 v2 o pt a1 a2 a3 a4 a5 a6 => by rw [ev _ _ a3]; exact q3 h' v1 v2 o pt a1 a2 a3 a4 a5 a6⟩
  rw [a pt hp, b pt hp, e2 pt hp]
  exact q1 pt hp
def all8 (p : Nat → Nat → Bool) : Bool := (List.range 8).all fun i => (List.range 8).all fun j => p i j
theorem all8_ok {p : Nat → Nat → Bool} (h : all8 p = true) : ∀ i j, i < 8 → j < 8 → p i j = true := fun i j hi hj => by
  unfold all8 at h
  exact List.all_eq_true.mp (List.all_eq_true.mp h i (List.mem_range.mpr hi)) j (List.mem_range.mpr hj)
set_option maxRecDepth 100000 in
theorem st0 : all8 (fun i j => decide (hOf xC0 (43 + 5 + i) j = 0)) = true := by decide +kernel
set_option maxRecDepth 100000 in
theorem bytes0 : (List.range 40).all (fun j => decide ((hOf xM0 1 j).toInt = (hOf xCG 5 j).toInt) && (decide (0 ≤ (hOf xCG 5 j).toInt) && decide ((hOf xCG 5 j).toInt ≤ 255))) = true := by decide +kernel
set_option maxRecDepth 100000 in
theorem cells0 : hOf xC0 43 0 = hOf xM0 0 7 ∧ hOf xC0 43 1 = hOf xM0 0 8 ∧ hOf xC0 43 2 = hOf xM0 0 13 ∧ hOf xC0 43 2 = 0 ∧ dtx (hOf xC0 43 3) = 10 ∧ hOf xM0 0 4 = 0 ∧ hOf xC0 0 3 = 1 ∧ hOf xM0 0 3 = 1 ∧ hOf xC0 43 0 = 0 ∧ hOf xC0 0 7 = 0 ∧ hOf xM0 0 39 = -1 ∧ hOf xC0 1 0 = 0 ∧ hOf xM0 0 6 = 0 ∧ hOf xM0 0 29 = -1 ∧ hOf xM0 0 30 = -1 ∧ hOf xM0 0 31 = -1 ∧ hOf xCG 1 0 = 40 ∧ hOf xM0 2 0 = 40 := by decide +kernel
set_option maxRecDepth 100000 in
theorem sheets0 : (List.range 4).all (fun s => decide (hOf xC0 (34 + 2 * s) 0 = -1) && decide (hOf xM0 14 s = 0)) = true := by decide +kernel
theorem Sem0 : Sem (hOf xC0) (hOf xM0) 0 := by
  obtain ⟨c1, c2, c3, c4, c5, c6, c7, c8, c9, c10, c11, c12, c13, c14, c15, c16, c17, c18⟩ := cells0
  have t40 : (40 : Int32).toInt = 40 := by decide
  have g10 : (hOf xCG 1 0).toInt = 40 := by rw [c17]; exact t40
  have hN : cN (hOf xCG) = 40 := by unfold cN; rw [g10]; rfl
  have B : ∀ j, j < 40 → (hOf xM0 1 j).toInt = (hOf xCG 5 j).toInt ∧ 0 ≤ (hOf xCG 5 j).toInt ∧ (hOf xCG 5 j).toInt ≤ 255 := fun j hj => by
    have h := List.all_eq_true.mp bytes0 j (List.mem_range.mpr hj)
    simp only [Bool.and_eq_true, decide_eq_true_eq] at h
    exact h
  obtain ⟨o, ho, -⟩ := s_X1_readInto (hOf xCG) invC_G 10 (Or.inl rfl)
  obtain ⟨k, hk⟩ := m_X1_readInto (d := 1001) (Nat.le_refl _) 10 (Or.inl rfl) (hOf xCG) o ho
  obtain ⟨C, r1, r2, r3⟩ := chkR_ok xCG_ok
  have r1' : xexec xK 13 11 [.ref 42, .ref 10] (dC shC (hOf xCG)) [] = some [(some (.int (-1)), C, [])] := (congrArg (fun c => xexec xK 13 11 [.ref 42, .ref 10] c []) xCG_d).symm.trans r1
  obtain ⟨e1, e2⟩ := run_eq (d1 := 13) (d2 := 1001) (n := 988) rfl r1' hk
  have r2' : (dC shC o.2)[11]? = (dC shC (hOf xC0))[11]? := ((congrArg (fun l : List xCel => l[11]?) e2).symm.trans r2).trans (congrArg (fun l : List xCel => l[11]?) xC0_d)
  have r3' : (dC shC o.2)[12]? = (dC shC (hOf xC0))[12]? := ((congrArg (fun l : List xCel => l[12]?) e2).symm.trans r3).trans (congrArg (fun l : List xCel => l[12]?) xC0_d)
  have S := sem_new (t := 0) (by omega) (hC := hOf xCG) (by rw [g10]; omega) (by rw [g10]; omega) (fun j hj => (B j (by rw [hN] at hj; exact hj)).2) (r := o.1) (g := o.2) ho (by rw [← e1]; decide) invM_0 ⟨by rw [c18, hN]; exact t40, fun j hj => by rw [hN] at hj; rw [show 160 * 0 + j = j by omega]; exact (B j hj).1⟩
  exact S.same3 (fun k hk => (row_eq (a := 11) (n := 160) rfl r2' hk).symm) (fun k hk => (row_eq (a := 12) (n := 3) rfl r3' hk).symm)
theorem RR0 : RR (hOf xC0) (hOf xM0) := by
  obtain ⟨c1, c2, c3, c4, c5, c6, c7, c8, c9, c10, c11, c12, c13, c14, c15, c16, c17, c18⟩ := cells0
  have tm : (-1 : Int32).toInt = -1 := by decide
  have z2 : (hOf xC0 43 2).toInt = 0 := by rw [c4]; rfl
  refine ⟨⟨c1, c2, c3, by omega, fun i hi => by omega, fun i j hi => by omega, ⟨by rw [c5, c6]; decide, by rw [c6]; decide, by rw [c6, c7]; decide⟩, by rw [c9]; decide, fun i hi => by omega, ⟨fun i j hi => ?_, fun i hi => ?_⟩, fun i j hi hj _ => of_decide_eq_true (all8_ok st0 i j hi hj)⟩, Or.inl ⟨by rw [c10]; rfl, by rw [c11]; exact tm⟩, ⟨c7.trans c8.symm, by rw [c7]; decide, by rw [c7]; decide, fun t ht => ?_⟩, ⟨c12.trans c13.symm, by rw [c12]; decide, by rw [c12]; decide, fun j hj => ?_⟩, fun s hs => Or.inl ?_, by rw [c14]; exact tm, by rw [c15]; exact tm, by rw [c16]; exact tm⟩
  · rw [z2] at hi; exact absurd hi (by decide +revert)
  · rw [z2] at hi; exact absurd hi (by decide +revert)
  · rw [c7, ti1] at ht
    have : t = 0 := by omega
    rw [this]; exact Sem0
  · rw [c12, ti0] at hj
    exact absurd hj (by omega)
  · have h := List.all_eq_true.mp sheets0 s (List.mem_range.mpr hs)
    simp only [Bool.and_eq_true, decide_eq_true_eq] at h
    rw [h.1, h.2]
    exact ⟨tm, rfl⟩
end
