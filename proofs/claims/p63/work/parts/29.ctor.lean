/-! The constructors. -/
theorem cb_16 : (Int8.ofInt (16)).toInt32 = (16 : Int32) := by decide +kernel
theorem cb_30 : (Int8.ofInt (30)).toInt32 = (30 : Int32) := by decide +kernel
/-! The constructors; the law as a flat program. -/
def hx_0 : a_H := [.inr (8, [.null, .int 0, .null, .int 0, .null, .null, .null, .null, .null, .null, .null, .null, .null, .null, .null, .int 0])]
def hx_1 : a_H := [.inr (8, [.ref 1, .int 0, .ref 2, .int 0, .null, .null, .null, .null, .null, .null, .null, .null, .null, .null, .null, .int 0]),
  .inl (.byte, 600, .inl fun _ => 0),
  .inl (.byte, 16, .inl fun _ => 0),
  .inr (7, [.null, .int 0, .int 0, .int 0, .int 0, .int 0, .int 0, .int 0])]
def hx_2 : a_H := [.inr (8, [.ref 1, .int 0, .ref 2, .int 0, .null, .null, .null, .null, .null, .null, .null, .null, .null, .null, .null, .int 0]),
  .inl (.byte, 600, .inl fun _ => 0),
  .inl (.byte, 16, .inl fun _ => 0),
  .inr (7, [.ref 4, .int 0, .int 0, .int 0, .int 0, .int 0, .int (0 : Int32), .int (-1 : Int32)]),
  .inl (.byte, 0, .inl fun _ => 0)]
def hx_3 : a_H := [.inr (8, [.ref 1, .int 0, .ref 2, .int 0, .ref 3, .null, .null, .null, .null, .null, .null, .null, .null, .null, .null, .int 0]),
  .inl (.byte, 600, .inl fun _ => 0),
  .inl (.byte, 16, .inl fun _ => 0),
  .inr (7, [.ref 4, .int 0, .int 0, .int 0, .int 0, .int 0, .int (0 : Int32), .int (-1 : Int32)]),
  .inl (.byte, 0, .inl fun _ => 0),
  .inr (6, [.int 0, .null, .null, .null, .int 0, .null, .int 0])]
def hx_4 : a_H := [.inr (8, [.ref 1, .int 0, .ref 2, .int 0, .ref 3, .null, .null, .null, .null, .null, .null, .null, .null, .null, .null, .int 0]),
  .inl (.byte, 600, .inl fun _ => 0),
  .inl (.byte, 16, .inl fun _ => 0),
  .inr (7, [.ref 4, .int 0, .int 0, .int 0, .int 0, .int 0, .int (0 : Int32), .int (-1 : Int32)]),
  .inl (.byte, 0, .inl fun _ => 0),
  .inr (6, [.int 0, .ref 6, .ref 7, .ref 8, .int 0, .ref 9, .int 0]),
  .inl (.int, 8, .inl fun _ => 0),
  .inl (.byte, 48, .inl fun _ => 0),
  .inl (.int, 8, .inl fun _ => 0),
  .inl (.int, 3, .inl fun _ => 0)]
def hx_5 : a_H := [.inr (8, [.ref 1, .int 0, .ref 2, .int 0, .ref 3, .ref 5, .null, .null, .null, .null, .null, .null, .null, .null, .null, .int 0]),
  .inl (.byte, 600, .inl fun _ => 0),
  .inl (.byte, 16, .inl fun _ => 0),
  .inr (7, [.ref 4, .int 0, .int 0, .int 0, .int 0, .int 0, .int (0 : Int32), .int (-1 : Int32)]),
  .inl (.byte, 0, .inl fun _ => 0),
  .inr (6, [.int 0, .ref 6, .ref 7, .ref 8, .int 0, .ref 9, .int 0]),
  .inl (.int, 8, .inl fun _ => 0),
  .inl (.byte, 48, .inl fun _ => 0),
  .inl (.int, 8, .inl fun _ => 0),
  .inl (.int, 3, .inl fun _ => 0),
  .inr (5, [.null, .int 0])]
def hx_6 : a_H := [.inr (8, [.ref 1, .int 0, .ref 2, .int 0, .ref 3, .ref 5, .null, .null, .null, .null, .null, .null, .null, .null, .null, .int 0]),
  .inl (.byte, 600, .inl fun _ => 0),
  .inl (.byte, 16, .inl fun _ => 0),
  .inr (7, [.ref 4, .int 0, .int 0, .int 0, .int 0, .int 0, .int (0 : Int32), .int (-1 : Int32)]),
  .inl (.byte, 0, .inl fun _ => 0),
  .inr (6, [.int 0, .ref 6, .ref 7, .ref 8, .int 0, .ref 9, .int 0]),
  .inl (.int, 8, .inl fun _ => 0),
  .inl (.byte, 48, .inl fun _ => 0),
  .inl (.int, 8, .inl fun _ => 0),
  .inl (.int, 3, .inl fun _ => 0),
  .inr (5, [.ref 11, .int 0]),
  .inl (.array .int, 30, .inr (.inr (.inr (.inr (fun i => if i < 30 then some (12 + i) else none))))),
  .inl (.int, 7, .inl fun _ => 0),
  .inl (.int, 7, .inl fun _ => 0),
  .inl (.int, 7, .inl fun _ => 0),
  .inl (.int, 7, .inl fun _ => 0),
  .inl (.int, 7, .inl fun _ => 0),
  .inl (.int, 7, .inl fun _ => 0),
  .inl (.int, 7, .inl fun _ => 0),
  .inl (.int, 7, .inl fun _ => 0),
  .inl (.int, 7, .inl fun _ => 0),
  .inl (.int, 7, .inl fun _ => 0),
  .inl (.int, 7, .inl fun _ => 0),
  .inl (.int, 7, .inl fun _ => 0),
  .inl (.int, 7, .inl fun _ => 0),
  .inl (.int, 7, .inl fun _ => 0),
  .inl (.int, 7, .inl fun _ => 0),
  .inl (.int, 7, .inl fun _ => 0),
  .inl (.int, 7, .inl fun _ => 0),
  .inl (.int, 7, .inl fun _ => 0),
  .inl (.int, 7, .inl fun _ => 0),
  .inl (.int, 7, .inl fun _ => 0),
  .inl (.int, 7, .inl fun _ => 0),
  .inl (.int, 7, .inl fun _ => 0),
  .inl (.int, 7, .inl fun _ => 0),
  .inl (.int, 7, .inl fun _ => 0),
  .inl (.int, 7, .inl fun _ => 0),
  .inl (.int, 7, .inl fun _ => 0),
  .inl (.int, 7, .inl fun _ => 0),
  .inl (.int, 7, .inl fun _ => 0),
  .inl (.int, 7, .inl fun _ => 0),
  .inl (.int, 7, .inl fun _ => 0)]
def hx_7 : a_H := [.inr (8, [.ref 1, .int 0, .ref 2, .int 0, .ref 3, .ref 5, .ref 10, .null, .null, .null, .null, .null, .null, .null, .null, .int 0]),
  .inl (.byte, 600, .inl fun _ => 0),
  .inl (.byte, 16, .inl fun _ => 0),
  .inr (7, [.ref 4, .int 0, .int 0, .int 0, .int 0, .int 0, .int (0 : Int32), .int (-1 : Int32)]),
  .inl (.byte, 0, .inl fun _ => 0),
  .inr (6, [.int 0, .ref 6, .ref 7, .ref 8, .int 0, .ref 9, .int 0]),
  .inl (.int, 8, .inl fun _ => 0),
  .inl (.byte, 48, .inl fun _ => 0),
  .inl (.int, 8, .inl fun _ => 0),
  .inl (.int, 3, .inl fun _ => 0),
  .inr (5, [.ref 11, .int 0]),
  .inl (.array .int, 30, .inr (.inr (.inr (.inr (fun i => if i < 30 then some (12 + i) else none))))),
  .inl (.int, 7, .inl fun _ => 0),
  .inl (.int, 7, .inl fun _ => 0),
  .inl (.int, 7, .inl fun _ => 0),
  .inl (.int, 7, .inl fun _ => 0),
  .inl (.int, 7, .inl fun _ => 0),
  .inl (.int, 7, .inl fun _ => 0),
  .inl (.int, 7, .inl fun _ => 0),
  .inl (.int, 7, .inl fun _ => 0),
  .inl (.int, 7, .inl fun _ => 0),
  .inl (.int, 7, .inl fun _ => 0),
  .inl (.int, 7, .inl fun _ => 0),
  .inl (.int, 7, .inl fun _ => 0),
  .inl (.int, 7, .inl fun _ => 0),
  .inl (.int, 7, .inl fun _ => 0),
  .inl (.int, 7, .inl fun _ => 0),
  .inl (.int, 7, .inl fun _ => 0),
  .inl (.int, 7, .inl fun _ => 0),
  .inl (.int, 7, .inl fun _ => 0),
  .inl (.int, 7, .inl fun _ => 0),
  .inl (.int, 7, .inl fun _ => 0),
  .inl (.int, 7, .inl fun _ => 0),
  .inl (.int, 7, .inl fun _ => 0),
  .inl (.int, 7, .inl fun _ => 0),
  .inl (.int, 7, .inl fun _ => 0),
  .inl (.int, 7, .inl fun _ => 0),
  .inl (.int, 7, .inl fun _ => 0),
  .inl (.int, 7, .inl fun _ => 0),
  .inl (.int, 7, .inl fun _ => 0),
  .inl (.int, 7, .inl fun _ => 0),
  .inl (.int, 7, .inl fun _ => 0),
  .inr (0, [.null, .int 0])]
def hx_8 : a_H := [.inr (8, [.ref 1, .int 0, .ref 2, .int 0, .ref 3, .ref 5, .ref 10, .null, .null, .null, .null, .null, .null, .null, .null, .int 0]),
  .inl (.byte, 600, .inl fun _ => 0),
  .inl (.byte, 16, .inl fun _ => 0),
  .inr (7, [.ref 4, .int 0, .int 0, .int 0, .int 0, .int 0, .int (0 : Int32), .int (-1 : Int32)]),
  .inl (.byte, 0, .inl fun _ => 0),
  .inr (6, [.int 0, .ref 6, .ref 7, .ref 8, .int 0, .ref 9, .int 0]),
  .inl (.int, 8, .inl fun _ => 0),
  .inl (.byte, 48, .inl fun _ => 0),
  .inl (.int, 8, .inl fun _ => 0),
  .inl (.int, 3, .inl fun _ => 0),
  .inr (5, [.ref 11, .int 0]),
  .inl (.array .int, 30, .inr (.inr (.inr (.inr (fun i => if i < 30 then some (12 + i) else none))))),
  .inl (.int, 7, .inl fun _ => 0),
  .inl (.int, 7, .inl fun _ => 0),
  .inl (.int, 7, .inl fun _ => 0),
  .inl (.int, 7, .inl fun _ => 0),
  .inl (.int, 7, .inl fun _ => 0),
  .inl (.int, 7, .inl fun _ => 0),
  .inl (.int, 7, .inl fun _ => 0),
  .inl (.int, 7, .inl fun _ => 0),
  .inl (.int, 7, .inl fun _ => 0),
  .inl (.int, 7, .inl fun _ => 0),
  .inl (.int, 7, .inl fun _ => 0),
  .inl (.int, 7, .inl fun _ => 0),
  .inl (.int, 7, .inl fun _ => 0),
  .inl (.int, 7, .inl fun _ => 0),
  .inl (.int, 7, .inl fun _ => 0),
  .inl (.int, 7, .inl fun _ => 0),
  .inl (.int, 7, .inl fun _ => 0),
  .inl (.int, 7, .inl fun _ => 0),
  .inl (.int, 7, .inl fun _ => 0),
  .inl (.int, 7, .inl fun _ => 0),
  .inl (.int, 7, .inl fun _ => 0),
  .inl (.int, 7, .inl fun _ => 0),
  .inl (.int, 7, .inl fun _ => 0),
  .inl (.int, 7, .inl fun _ => 0),
  .inl (.int, 7, .inl fun _ => 0),
  .inl (.int, 7, .inl fun _ => 0),
  .inl (.int, 7, .inl fun _ => 0),
  .inl (.int, 7, .inl fun _ => 0),
  .inl (.int, 7, .inl fun _ => 0),
  .inl (.int, 7, .inl fun _ => 0),
  .inr (0, [.ref 43, .int 0]),
  .inl (.int, 24, .inl fun _ => 0)]
def hx_9 : a_H := [.inr (8, [.ref 1, .int 0, .ref 2, .int 0, .ref 3, .ref 5, .ref 10, .ref 42, .null, .null, .null, .null, .null, .null, .null, .int 0]),
  .inl (.byte, 600, .inl fun _ => 0),
  .inl (.byte, 16, .inl fun _ => 0),
  .inr (7, [.ref 4, .int 0, .int 0, .int 0, .int 0, .int 0, .int (0 : Int32), .int (-1 : Int32)]),
  .inl (.byte, 0, .inl fun _ => 0),
  .inr (6, [.int 0, .ref 6, .ref 7, .ref 8, .int 0, .ref 9, .int 0]),
  .inl (.int, 8, .inl fun _ => 0),
  .inl (.byte, 48, .inl fun _ => 0),
  .inl (.int, 8, .inl fun _ => 0),
  .inl (.int, 3, .inl fun _ => 0),
  .inr (5, [.ref 11, .int 0]),
  .inl (.array .int, 30, .inr (.inr (.inr (.inr (fun i => if i < 30 then some (12 + i) else none))))),
  .inl (.int, 7, .inl fun _ => 0),
  .inl (.int, 7, .inl fun _ => 0),
  .inl (.int, 7, .inl fun _ => 0),
  .inl (.int, 7, .inl fun _ => 0),
  .inl (.int, 7, .inl fun _ => 0),
  .inl (.int, 7, .inl fun _ => 0),
  .inl (.int, 7, .inl fun _ => 0),
  .inl (.int, 7, .inl fun _ => 0),
  .inl (.int, 7, .inl fun _ => 0),
  .inl (.int, 7, .inl fun _ => 0),
  .inl (.int, 7, .inl fun _ => 0),
  .inl (.int, 7, .inl fun _ => 0),
  .inl (.int, 7, .inl fun _ => 0),
  .inl (.int, 7, .inl fun _ => 0),
  .inl (.int, 7, .inl fun _ => 0),
  .inl (.int, 7, .inl fun _ => 0),
  .inl (.int, 7, .inl fun _ => 0),
  .inl (.int, 7, .inl fun _ => 0),
  .inl (.int, 7, .inl fun _ => 0),
  .inl (.int, 7, .inl fun _ => 0),
  .inl (.int, 7, .inl fun _ => 0),
  .inl (.int, 7, .inl fun _ => 0),
  .inl (.int, 7, .inl fun _ => 0),
  .inl (.int, 7, .inl fun _ => 0),
  .inl (.int, 7, .inl fun _ => 0),
  .inl (.int, 7, .inl fun _ => 0),
  .inl (.int, 7, .inl fun _ => 0),
  .inl (.int, 7, .inl fun _ => 0),
  .inl (.int, 7, .inl fun _ => 0),
  .inl (.int, 7, .inl fun _ => 0),
  .inr (0, [.ref 43, .int 0]),
  .inl (.int, 24, .inl fun _ => 0),
  .inr (2, [.null, .int 0, .int 0])]
def hx_10 : a_H := [.inr (8, [.ref 1, .int 0, .ref 2, .int 0, .ref 3, .ref 5, .ref 10, .ref 42, .null, .null, .null, .null, .null, .null, .null, .int 0]),
  .inl (.byte, 600, .inl fun _ => 0),
  .inl (.byte, 16, .inl fun _ => 0),
  .inr (7, [.ref 4, .int 0, .int 0, .int 0, .int 0, .int 0, .int (0 : Int32), .int (-1 : Int32)]),
  .inl (.byte, 0, .inl fun _ => 0),
  .inr (6, [.int 0, .ref 6, .ref 7, .ref 8, .int 0, .ref 9, .int 0]),
  .inl (.int, 8, .inl fun _ => 0),
  .inl (.byte, 48, .inl fun _ => 0),
  .inl (.int, 8, .inl fun _ => 0),
  .inl (.int, 3, .inl fun _ => 0),
  .inr (5, [.ref 11, .int 0]),
  .inl (.array .int, 30, .inr (.inr (.inr (.inr (fun i => if i < 30 then some (12 + i) else none))))),
  .inl (.int, 7, .inl fun _ => 0),
  .inl (.int, 7, .inl fun _ => 0),
  .inl (.int, 7, .inl fun _ => 0),
  .inl (.int, 7, .inl fun _ => 0),
  .inl (.int, 7, .inl fun _ => 0),
  .inl (.int, 7, .inl fun _ => 0),
  .inl (.int, 7, .inl fun _ => 0),
  .inl (.int, 7, .inl fun _ => 0),
  .inl (.int, 7, .inl fun _ => 0),
  .inl (.int, 7, .inl fun _ => 0),
  .inl (.int, 7, .inl fun _ => 0),
  .inl (.int, 7, .inl fun _ => 0),
  .inl (.int, 7, .inl fun _ => 0),
  .inl (.int, 7, .inl fun _ => 0),
  .inl (.int, 7, .inl fun _ => 0),
  .inl (.int, 7, .inl fun _ => 0),
  .inl (.int, 7, .inl fun _ => 0),
  .inl (.int, 7, .inl fun _ => 0),
  .inl (.int, 7, .inl fun _ => 0),
  .inl (.int, 7, .inl fun _ => 0),
  .inl (.int, 7, .inl fun _ => 0),
  .inl (.int, 7, .inl fun _ => 0),
  .inl (.int, 7, .inl fun _ => 0),
  .inl (.int, 7, .inl fun _ => 0),
  .inl (.int, 7, .inl fun _ => 0),
  .inl (.int, 7, .inl fun _ => 0),
  .inl (.int, 7, .inl fun _ => 0),
  .inl (.int, 7, .inl fun _ => 0),
  .inl (.int, 7, .inl fun _ => 0),
  .inl (.int, 7, .inl fun _ => 0),
  .inr (0, [.ref 43, .int 0]),
  .inl (.int, 24, .inl fun _ => 0),
  .inr (2, [.ref 45, .int 0, .int 0]),
  .inl (.object RX3, 8, .inr (.inr (.inr (.inr (fun _ => none))))),
  .inr (3, [.int 0, .int 0, .null, .int 0, .null, .int 0, .null, .null, .null, .null, .int 0, .int 0, .int 0, .int 0, .int 0])]
def hx_11 : a_H := [.inr (8, [.ref 1, .int 0, .ref 2, .int 0, .ref 3, .ref 5, .ref 10, .ref 42, .null, .null, .null, .null, .null, .null, .null, .int 0]),
  .inl (.byte, 600, .inl fun _ => 0),
  .inl (.byte, 16, .inl fun _ => 0),
  .inr (7, [.ref 4, .int 0, .int 0, .int 0, .int 0, .int 0, .int (0 : Int32), .int (-1 : Int32)]),
  .inl (.byte, 0, .inl fun _ => 0),
  .inr (6, [.int 0, .ref 6, .ref 7, .ref 8, .int 0, .ref 9, .int 0]),
  .inl (.int, 8, .inl fun _ => 0),
  .inl (.byte, 48, .inl fun _ => 0),
  .inl (.int, 8, .inl fun _ => 0),
  .inl (.int, 3, .inl fun _ => 0),
  .inr (5, [.ref 11, .int 0]),
  .inl (.array .int, 30, .inr (.inr (.inr (.inr (fun i => if i < 30 then some (12 + i) else none))))),
  .inl (.int, 7, .inl fun _ => 0),
  .inl (.int, 7, .inl fun _ => 0),
  .inl (.int, 7, .inl fun _ => 0),
  .inl (.int, 7, .inl fun _ => 0),
  .inl (.int, 7, .inl fun _ => 0),
  .inl (.int, 7, .inl fun _ => 0),
  .inl (.int, 7, .inl fun _ => 0),
  .inl (.int, 7, .inl fun _ => 0),
  .inl (.int, 7, .inl fun _ => 0),
  .inl (.int, 7, .inl fun _ => 0),
  .inl (.int, 7, .inl fun _ => 0),
  .inl (.int, 7, .inl fun _ => 0),
  .inl (.int, 7, .inl fun _ => 0),
  .inl (.int, 7, .inl fun _ => 0),
  .inl (.int, 7, .inl fun _ => 0),
  .inl (.int, 7, .inl fun _ => 0),
  .inl (.int, 7, .inl fun _ => 0),
  .inl (.int, 7, .inl fun _ => 0),
  .inl (.int, 7, .inl fun _ => 0),
  .inl (.int, 7, .inl fun _ => 0),
  .inl (.int, 7, .inl fun _ => 0),
  .inl (.int, 7, .inl fun _ => 0),
  .inl (.int, 7, .inl fun _ => 0),
  .inl (.int, 7, .inl fun _ => 0),
  .inl (.int, 7, .inl fun _ => 0),
  .inl (.int, 7, .inl fun _ => 0),
  .inl (.int, 7, .inl fun _ => 0),
  .inl (.int, 7, .inl fun _ => 0),
  .inl (.int, 7, .inl fun _ => 0),
  .inl (.int, 7, .inl fun _ => 0),
  .inr (0, [.ref 43, .int 0]),
  .inl (.int, 24, .inl fun _ => 0),
  .inr (2, [.ref 45, .int 0, .int 0]),
  .inl (.object RX3, 8, .inr (.inr (.inr (.inr (fun _ => none))))),
  .inr (3, [.int 0, .int 0, .ref 47, .int 0, .ref 48, .int 0, .ref 49, .ref 50, .ref 51, .ref 52, .int 0, .int 0, .int 0, .int 0, .int 0]),
  .inl (.int, 8, .inl fun _ => 0),
  .inl (.boolean, 20, .inl fun _ => 0),
  .inl (.int, 20, .inl fun _ => 0),
  .inl (.int, 20, .inl fun _ => 0),
  .inl (.int, 20, .inl fun _ => 0),
  .inl (.int, 20, .inl fun _ => 0)]
def hx_12 : a_H := [.inr (8, [.ref 1, .int 0, .ref 2, .int 0, .ref 3, .ref 5, .ref 10, .ref 42, .null, .null, .null, .null, .null, .null, .null, .int 0]),
  .inl (.byte, 600, .inl fun _ => 0),
  .inl (.byte, 16, .inl fun _ => 0),
  .inr (7, [.ref 4, .int 0, .int 0, .int 0, .int 0, .int 0, .int (0 : Int32), .int (-1 : Int32)]),
  .inl (.byte, 0, .inl fun _ => 0),
  .inr (6, [.int 0, .ref 6, .ref 7, .ref 8, .int 0, .ref 9, .int 0]),
  .inl (.int, 8, .inl fun _ => 0),
  .inl (.byte, 48, .inl fun _ => 0),
  .inl (.int, 8, .inl fun _ => 0),
  .inl (.int, 3, .inl fun _ => 0),
  .inr (5, [.ref 11, .int 0]),
  .inl (.array .int, 30, .inr (.inr (.inr (.inr (fun i => if i < 30 then some (12 + i) else none))))),
  .inl (.int, 7, .inl fun _ => 0),
  .inl (.int, 7, .inl fun _ => 0),
  .inl (.int, 7, .inl fun _ => 0),
  .inl (.int, 7, .inl fun _ => 0),
  .inl (.int, 7, .inl fun _ => 0),
  .inl (.int, 7, .inl fun _ => 0),
  .inl (.int, 7, .inl fun _ => 0),
  .inl (.int, 7, .inl fun _ => 0),
  .inl (.int, 7, .inl fun _ => 0),
  .inl (.int, 7, .inl fun _ => 0),
  .inl (.int, 7, .inl fun _ => 0),
  .inl (.int, 7, .inl fun _ => 0),
  .inl (.int, 7, .inl fun _ => 0),
  .inl (.int, 7, .inl fun _ => 0),
  .inl (.int, 7, .inl fun _ => 0),
  .inl (.int, 7, .inl fun _ => 0),
  .inl (.int, 7, .inl fun _ => 0),
  .inl (.int, 7, .inl fun _ => 0),
  .inl (.int, 7, .inl fun _ => 0),
  .inl (.int, 7, .inl fun _ => 0),
  .inl (.int, 7, .inl fun _ => 0),
  .inl (.int, 7, .inl fun _ => 0),
  .inl (.int, 7, .inl fun _ => 0),
  .inl (.int, 7, .inl fun _ => 0),
  .inl (.int, 7, .inl fun _ => 0),
  .inl (.int, 7, .inl fun _ => 0),
  .inl (.int, 7, .inl fun _ => 0),
  .inl (.int, 7, .inl fun _ => 0),
  .inl (.int, 7, .inl fun _ => 0),
  .inl (.int, 7, .inl fun _ => 0),
  .inr (0, [.ref 43, .int 0]),
  .inl (.int, 24, .inl fun _ => 0),
  .inr (2, [.ref 45, .int 0, .int 0]),
  .inl (.object RX3, 8, .inr (.inr (.inr (.inr (va_up (fun _ => none) 0 (some 46)))))),
  .inr (3, [.int 0, .int 0, .ref 47, .int 0, .ref 48, .int 0, .ref 49, .ref 50, .ref 51, .ref 52, .int 0, .int 0, .int 0, .int 0, .int 0]),
  .inl (.int, 8, .inl fun _ => 0),
  .inl (.boolean, 20, .inl fun _ => 0),
  .inl (.int, 20, .inl fun _ => 0),
  .inl (.int, 20, .inl fun _ => 0),
  .inl (.int, 20, .inl fun _ => 0),
  .inl (.int, 20, .inl fun _ => 0),
  .inr (3, [.int 0, .int 0, .null, .int 0, .null, .int 0, .null, .null, .null, .null, .int 0, .int 0, .int 0, .int 0, .int 0])]
def hx_13 : a_H := [.inr (8, [.ref 1, .int 0, .ref 2, .int 0, .ref 3, .ref 5, .ref 10, .ref 42, .null, .null, .null, .null, .null, .null, .null, .int 0]),
  .inl (.byte, 600, .inl fun _ => 0),
  .inl (.byte, 16, .inl fun _ => 0),
  .inr (7, [.ref 4, .int 0, .int 0, .int 0, .int 0, .int 0, .int (0 : Int32), .int (-1 : Int32)]),
  .inl (.byte, 0, .inl fun _ => 0),
  .inr (6, [.int 0, .ref 6, .ref 7, .ref 8, .int 0, .ref 9, .int 0]),
  .inl (.int, 8, .inl fun _ => 0),
  .inl (.byte, 48, .inl fun _ => 0),
  .inl (.int, 8, .inl fun _ => 0),
  .inl (.int, 3, .inl fun _ => 0),
  .inr (5, [.ref 11, .int 0]),
  .inl (.array .int, 30, .inr (.inr (.inr (.inr (fun i => if i < 30 then some (12 + i) else none))))),
  .inl (.int, 7, .inl fun _ => 0),
  .inl (.int, 7, .inl fun _ => 0),
  .inl (.int, 7, .inl fun _ => 0),
  .inl (.int, 7, .inl fun _ => 0),
  .inl (.int, 7, .inl fun _ => 0),
  .inl (.int, 7, .inl fun _ => 0),
  .inl (.int, 7, .inl fun _ => 0),
  .inl (.int, 7, .inl fun _ => 0),
  .inl (.int, 7, .inl fun _ => 0),
  .inl (.int, 7, .inl fun _ => 0),
  .inl (.int, 7, .inl fun _ => 0),
  .inl (.int, 7, .inl fun _ => 0),
  .inl (.int, 7, .inl fun _ => 0),
  .inl (.int, 7, .inl fun _ => 0),
  .inl (.int, 7, .inl fun _ => 0),
  .inl (.int, 7, .inl fun _ => 0),
  .inl (.int, 7, .inl fun _ => 0),
  .inl (.int, 7, .inl fun _ => 0),
  .inl (.int, 7, .inl fun _ => 0),
  .inl (.int, 7, .inl fun _ => 0),
  .inl (.int, 7, .inl fun _ => 0),
  .inl (.int, 7, .inl fun _ => 0),
  .inl (.int, 7, .inl fun _ => 0),
  .inl (.int, 7, .inl fun _ => 0),
  .inl (.int, 7, .inl fun _ => 0),
  .inl (.int, 7, .inl fun _ => 0),
  .inl (.int, 7, .inl fun _ => 0),
  .inl (.int, 7, .inl fun _ => 0),
  .inl (.int, 7, .inl fun _ => 0),
  .inl (.int, 7, .inl fun _ => 0),
  .inr (0, [.ref 43, .int 0]),
  .inl (.int, 24, .inl fun _ => 0),
  .inr (2, [.ref 45, .int 0, .int 0]),
  .inl (.object RX3, 8, .inr (.inr (.inr (.inr (va_up (fun _ => none) 0 (some 46)))))),
  .inr (3, [.int 0, .int 0, .ref 47, .int 0, .ref 48, .int 0, .ref 49, .ref 50, .ref 51, .ref 52, .int 0, .int 0, .int 0, .int 0, .int 0]),
  .inl (.int, 8, .inl fun _ => 0),
  .inl (.boolean, 20, .inl fun _ => 0),
  .inl (.int, 20, .inl fun _ => 0),
  .inl (.int, 20, .inl fun _ => 0),
  .inl (.int, 20, .inl fun _ => 0),
  .inl (.int, 20, .inl fun _ => 0),
  .inr (3, [.int 0, .int 0, .ref 54, .int 0, .ref 55, .int 0, .ref 56, .ref 57, .ref 58, .ref 59, .int 0, .int 0, .int 0, .int 0, .int 0]),
  .inl (.int, 8, .inl fun _ => 0),
  .inl (.boolean, 20, .inl fun _ => 0),
  .inl (.int, 20, .inl fun _ => 0),
  .inl (.int, 20, .inl fun _ => 0),
  .inl (.int, 20, .inl fun _ => 0),
  .inl (.int, 20, .inl fun _ => 0)]
def hx_14 : a_H := [.inr (8, [.ref 1, .int 0, .ref 2, .int 0, .ref 3, .ref 5, .ref 10, .ref 42, .null, .null, .null, .null, .null, .null, .null, .int 0]),
  .inl (.byte, 600, .inl fun _ => 0),
  .inl (.byte, 16, .inl fun _ => 0),
  .inr (7, [.ref 4, .int 0, .int 0, .int 0, .int 0, .int 0, .int (0 : Int32), .int (-1 : Int32)]),
  .inl (.byte, 0, .inl fun _ => 0),
  .inr (6, [.int 0, .ref 6, .ref 7, .ref 8, .int 0, .ref 9, .int 0]),
  .inl (.int, 8, .inl fun _ => 0),
  .inl (.byte, 48, .inl fun _ => 0),
  .inl (.int, 8, .inl fun _ => 0),
  .inl (.int, 3, .inl fun _ => 0),
  .inr (5, [.ref 11, .int 0]),
  .inl (.array .int, 30, .inr (.inr (.inr (.inr (fun i => if i < 30 then some (12 + i) else none))))),
  .inl (.int, 7, .inl fun _ => 0),
  .inl (.int, 7, .inl fun _ => 0),
  .inl (.int, 7, .inl fun _ => 0),
  .inl (.int, 7, .inl fun _ => 0),
  .inl (.int, 7, .inl fun _ => 0),
  .inl (.int, 7, .inl fun _ => 0),
  .inl (.int, 7, .inl fun _ => 0),
  .inl (.int, 7, .inl fun _ => 0),
  .inl (.int, 7, .inl fun _ => 0),
  .inl (.int, 7, .inl fun _ => 0),
  .inl (.int, 7, .inl fun _ => 0),
  .inl (.int, 7, .inl fun _ => 0),
  .inl (.int, 7, .inl fun _ => 0),
  .inl (.int, 7, .inl fun _ => 0),
  .inl (.int, 7, .inl fun _ => 0),
  .inl (.int, 7, .inl fun _ => 0),
  .inl (.int, 7, .inl fun _ => 0),
  .inl (.int, 7, .inl fun _ => 0),
  .inl (.int, 7, .inl fun _ => 0),
  .inl (.int, 7, .inl fun _ => 0),
  .inl (.int, 7, .inl fun _ => 0),
  .inl (.int, 7, .inl fun _ => 0),
  .inl (.int, 7, .inl fun _ => 0),
  .inl (.int, 7, .inl fun _ => 0),
  .inl (.int, 7, .inl fun _ => 0),
  .inl (.int, 7, .inl fun _ => 0),
  .inl (.int, 7, .inl fun _ => 0),
  .inl (.int, 7, .inl fun _ => 0),
  .inl (.int, 7, .inl fun _ => 0),
  .inl (.int, 7, .inl fun _ => 0),
  .inr (0, [.ref 43, .int 0]),
  .inl (.int, 24, .inl fun _ => 0),
  .inr (2, [.ref 45, .int 0, .int 0]),
  .inl (.object RX3, 8, .inr (.inr (.inr (.inr (va_up (va_up (fun _ => none) 0 (some 46)) 1 (some 53)))))),
  .inr (3, [.int 0, .int 0, .ref 47, .int 0, .ref 48, .int 0, .ref 49, .ref 50, .ref 51, .ref 52, .int 0, .int 0, .int 0, .int 0, .int 0]),
  .inl (.int, 8, .inl fun _ => 0),
  .inl (.boolean, 20, .inl fun _ => 0),
  .inl (.int, 20, .inl fun _ => 0),
  .inl (.int, 20, .inl fun _ => 0),
  .inl (.int, 20, .inl fun _ => 0),
  .inl (.int, 20, .inl fun _ => 0),
  .inr (3, [.int 0, .int 0, .ref 54, .int 0, .ref 55, .int 0, .ref 56, .ref 57, .ref 58, .ref 59, .int 0, .int 0, .int 0, .int 0, .int 0]),
  .inl (.int, 8, .inl fun _ => 0),
  .inl (.boolean, 20, .inl fun _ => 0),
  .inl (.int, 20, .inl fun _ => 0),
  .inl (.int, 20, .inl fun _ => 0),
  .inl (.int, 20, .inl fun _ => 0),
  .inl (.int, 20, .inl fun _ => 0),
  .inr (3, [.int 0, .int 0, .null, .int 0, .null, .int 0, .null, .null, .null, .null, .int 0, .int 0, .int 0, .int 0, .int 0])]
def hx_15 : a_H := [.inr (8, [.ref 1, .int 0, .ref 2, .int 0, .ref 3, .ref 5, .ref 10, .ref 42, .null, .null, .null, .null, .null, .null, .null, .int 0]),
  .inl (.byte, 600, .inl fun _ => 0),
  .inl (.byte, 16, .inl fun _ => 0),
  .inr (7, [.ref 4, .int 0, .int 0, .int 0, .int 0, .int 0, .int (0 : Int32), .int (-1 : Int32)]),
  .inl (.byte, 0, .inl fun _ => 0),
  .inr (6, [.int 0, .ref 6, .ref 7, .ref 8, .int 0, .ref 9, .int 0]),
  .inl (.int, 8, .inl fun _ => 0),
  .inl (.byte, 48, .inl fun _ => 0),
  .inl (.int, 8, .inl fun _ => 0),
  .inl (.int, 3, .inl fun _ => 0),
  .inr (5, [.ref 11, .int 0]),
  .inl (.array .int, 30, .inr (.inr (.inr (.inr (fun i => if i < 30 then some (12 + i) else none))))),
  .inl (.int, 7, .inl fun _ => 0),
  .inl (.int, 7, .inl fun _ => 0),
  .inl (.int, 7, .inl fun _ => 0),
  .inl (.int, 7, .inl fun _ => 0),
  .inl (.int, 7, .inl fun _ => 0),
  .inl (.int, 7, .inl fun _ => 0),
  .inl (.int, 7, .inl fun _ => 0),
  .inl (.int, 7, .inl fun _ => 0),
  .inl (.int, 7, .inl fun _ => 0),
  .inl (.int, 7, .inl fun _ => 0),
  .inl (.int, 7, .inl fun _ => 0),
  .inl (.int, 7, .inl fun _ => 0),
  .inl (.int, 7, .inl fun _ => 0),
  .inl (.int, 7, .inl fun _ => 0),
  .inl (.int, 7, .inl fun _ => 0),
  .inl (.int, 7, .inl fun _ => 0),
  .inl (.int, 7, .inl fun _ => 0),
  .inl (.int, 7, .inl fun _ => 0),
  .inl (.int, 7, .inl fun _ => 0),
  .inl (.int, 7, .inl fun _ => 0),
  .inl (.int, 7, .inl fun _ => 0),
  .inl (.int, 7, .inl fun _ => 0),
  .inl (.int, 7, .inl fun _ => 0),
  .inl (.int, 7, .inl fun _ => 0),
  .inl (.int, 7, .inl fun _ => 0),
  .inl (.int, 7, .inl fun _ => 0),
  .inl (.int, 7, .inl fun _ => 0),
  .inl (.int, 7, .inl fun _ => 0),
  .inl (.int, 7, .inl fun _ => 0),
  .inl (.int, 7, .inl fun _ => 0),
  .inr (0, [.ref 43, .int 0]),
  .inl (.int, 24, .inl fun _ => 0),
  .inr (2, [.ref 45, .int 0, .int 0]),
  .inl (.object RX3, 8, .inr (.inr (.inr (.inr (va_up (va_up (fun _ => none) 0 (some 46)) 1 (some 53)))))),
  .inr (3, [.int 0, .int 0, .ref 47, .int 0, .ref 48, .int 0, .ref 49, .ref 50, .ref 51, .ref 52, .int 0, .int 0, .int 0, .int 0, .int 0]),
  .inl (.int, 8, .inl fun _ => 0),
  .inl (.boolean, 20, .inl fun _ => 0),
  .inl (.int, 20, .inl fun _ => 0),
  .inl (.int, 20, .inl fun _ => 0),
  .inl (.int, 20, .inl fun _ => 0),
  .inl (.int, 20, .inl fun _ => 0),
  .inr (3, [.int 0, .int 0, .ref 54, .int 0, .ref 55, .int 0, .ref 56, .ref 57, .ref 58, .ref 59, .int 0, .int 0, .int 0, .int 0, .int 0]),
  .inl (.int, 8, .inl fun _ => 0),
  .inl (.boolean, 20, .inl fun _ => 0),
  .inl (.int, 20, .inl fun _ => 0),
  .inl (.int, 20, .inl fun _ => 0),
  .inl (.int, 20, .inl fun _ => 0),
  .inl (.int, 20, .inl fun _ => 0),
  .inr (3, [.int 0, .int 0, .ref 61, .int 0, .ref 62, .int 0, .ref 63, .ref 64, .ref 65, .ref 66, .int 0, .int 0, .int 0, .int 0, .int 0]),
  .inl (.int, 8, .inl fun _ => 0),
  .inl (.boolean, 20, .inl fun _ => 0),
  .inl (.int, 20, .inl fun _ => 0),
  .inl (.int, 20, .inl fun _ => 0),
  .inl (.int, 20, .inl fun _ => 0),
  .inl (.int, 20, .inl fun _ => 0)]
def hx_16 : a_H := [.inr (8, [.ref 1, .int 0, .ref 2, .int 0, .ref 3, .ref 5, .ref 10, .ref 42, .null, .null, .null, .null, .null, .null, .null, .int 0]),
  .inl (.byte, 600, .inl fun _ => 0),
  .inl (.byte, 16, .inl fun _ => 0),
  .inr (7, [.ref 4, .int 0, .int 0, .int 0, .int 0, .int 0, .int (0 : Int32), .int (-1 : Int32)]),
  .inl (.byte, 0, .inl fun _ => 0),
  .inr (6, [.int 0, .ref 6, .ref 7, .ref 8, .int 0, .ref 9, .int 0]),
  .inl (.int, 8, .inl fun _ => 0),
  .inl (.byte, 48, .inl fun _ => 0),
  .inl (.int, 8, .inl fun _ => 0),
  .inl (.int, 3, .inl fun _ => 0),
  .inr (5, [.ref 11, .int 0]),
  .inl (.array .int, 30, .inr (.inr (.inr (.inr (fun i => if i < 30 then some (12 + i) else none))))),
  .inl (.int, 7, .inl fun _ => 0),
  .inl (.int, 7, .inl fun _ => 0),
  .inl (.int, 7, .inl fun _ => 0),
  .inl (.int, 7, .inl fun _ => 0),
  .inl (.int, 7, .inl fun _ => 0),
  .inl (.int, 7, .inl fun _ => 0),
  .inl (.int, 7, .inl fun _ => 0),
  .inl (.int, 7, .inl fun _ => 0),
  .inl (.int, 7, .inl fun _ => 0),
  .inl (.int, 7, .inl fun _ => 0),
  .inl (.int, 7, .inl fun _ => 0),
  .inl (.int, 7, .inl fun _ => 0),
  .inl (.int, 7, .inl fun _ => 0),
  .inl (.int, 7, .inl fun _ => 0),
  .inl (.int, 7, .inl fun _ => 0),
  .inl (.int, 7, .inl fun _ => 0),
  .inl (.int, 7, .inl fun _ => 0),
  .inl (.int, 7, .inl fun _ => 0),
  .inl (.int, 7, .inl fun _ => 0),
  .inl (.int, 7, .inl fun _ => 0),
  .inl (.int, 7, .inl fun _ => 0),
  .inl (.int, 7, .inl fun _ => 0),
  .inl (.int, 7, .inl fun _ => 0),
  .inl (.int, 7, .inl fun _ => 0),
  .inl (.int, 7, .inl fun _ => 0),
  .inl (.int, 7, .inl fun _ => 0),
  .inl (.int, 7, .inl fun _ => 0),
  .inl (.int, 7, .inl fun _ => 0),
  .inl (.int, 7, .inl fun _ => 0),
  .inl (.int, 7, .inl fun _ => 0),
  .inr (0, [.ref 43, .int 0]),
  .inl (.int, 24, .inl fun _ => 0),
  .inr (2, [.ref 45, .int 0, .int 0]),
  .inl (.object RX3, 8, .inr (.inr (.inr (.inr (va_up (va_up (va_up (fun _ => none) 0 (some 46)) 1 (some 53)) 2 (some 60)))))),
  .inr (3, [.int 0, .int 0, .ref 47, .int 0, .ref 48, .int 0, .ref 49, .ref 50, .ref 51, .ref 52, .int 0, .int 0, .int 0, .int 0, .int 0]),
  .inl (.int, 8, .inl fun _ => 0),
  .inl (.boolean, 20, .inl fun _ => 0),
  .inl (.int, 20, .inl fun _ => 0),
  .inl (.int, 20, .inl fun _ => 0),
  .inl (.int, 20, .inl fun _ => 0),
  .inl (.int, 20, .inl fun _ => 0),
  .inr (3, [.int 0, .int 0, .ref 54, .int 0, .ref 55, .int 0, .ref 56, .ref 57, .ref 58, .ref 59, .int 0, .int 0, .int 0, .int 0, .int 0]),
  .inl (.int, 8, .inl fun _ => 0),
  .inl (.boolean, 20, .inl fun _ => 0),
  .inl (.int, 20, .inl fun _ => 0),
  .inl (.int, 20, .inl fun _ => 0),
  .inl (.int, 20, .inl fun _ => 0),
  .inl (.int, 20, .inl fun _ => 0),
  .inr (3, [.int 0, .int 0, .ref 61, .int 0, .ref 62, .int 0, .ref 63, .ref 64, .ref 65, .ref 66, .int 0, .int 0, .int 0, .int 0, .int 0]),
  .inl (.int, 8, .inl fun _ => 0),
  .inl (.boolean, 20, .inl fun _ => 0),
  .inl (.int, 20, .inl fun _ => 0),
  .inl (.int, 20, .inl fun _ => 0),
  .inl (.int, 20, .inl fun _ => 0),
  .inl (.int, 20, .inl fun _ => 0),
  .inr (3, [.int 0, .int 0, .null, .int 0, .null, .int 0, .null, .null, .null, .null, .int 0, .int 0, .int 0, .int 0, .int 0])]
def hx_17 : a_H := [.inr (8, [.ref 1, .int 0, .ref 2, .int 0, .ref 3, .ref 5, .ref 10, .ref 42, .null, .null, .null, .null, .null, .null, .null, .int 0]),
  .inl (.byte, 600, .inl fun _ => 0),
  .inl (.byte, 16, .inl fun _ => 0),
  .inr (7, [.ref 4, .int 0, .int 0, .int 0, .int 0, .int 0, .int (0 : Int32), .int (-1 : Int32)]),
  .inl (.byte, 0, .inl fun _ => 0),
  .inr (6, [.int 0, .ref 6, .ref 7, .ref 8, .int 0, .ref 9, .int 0]),
  .inl (.int, 8, .inl fun _ => 0),
  .inl (.byte, 48, .inl fun _ => 0),
  .inl (.int, 8, .inl fun _ => 0),
  .inl (.int, 3, .inl fun _ => 0),
  .inr (5, [.ref 11, .int 0]),
  .inl (.array .int, 30, .inr (.inr (.inr (.inr (fun i => if i < 30 then some (12 + i) else none))))),
  .inl (.int, 7, .inl fun _ => 0),
  .inl (.int, 7, .inl fun _ => 0),
  .inl (.int, 7, .inl fun _ => 0),
  .inl (.int, 7, .inl fun _ => 0),
  .inl (.int, 7, .inl fun _ => 0),
  .inl (.int, 7, .inl fun _ => 0),
  .inl (.int, 7, .inl fun _ => 0),
  .inl (.int, 7, .inl fun _ => 0),
  .inl (.int, 7, .inl fun _ => 0),
  .inl (.int, 7, .inl fun _ => 0),
  .inl (.int, 7, .inl fun _ => 0),
  .inl (.int, 7, .inl fun _ => 0),
  .inl (.int, 7, .inl fun _ => 0),
  .inl (.int, 7, .inl fun _ => 0),
  .inl (.int, 7, .inl fun _ => 0),
  .inl (.int, 7, .inl fun _ => 0),
  .inl (.int, 7, .inl fun _ => 0),
  .inl (.int, 7, .inl fun _ => 0),
  .inl (.int, 7, .inl fun _ => 0),
  .inl (.int, 7, .inl fun _ => 0),
  .inl (.int, 7, .inl fun _ => 0),
  .inl (.int, 7, .inl fun _ => 0),
  .inl (.int, 7, .inl fun _ => 0),
  .inl (.int, 7, .inl fun _ => 0),
  .inl (.int, 7, .inl fun _ => 0),
  .inl (.int, 7, .inl fun _ => 0),
  .inl (.int, 7, .inl fun _ => 0),
  .inl (.int, 7, .inl fun _ => 0),
  .inl (.int, 7, .inl fun _ => 0),
  .inl (.int, 7, .inl fun _ => 0),
  .inr (0, [.ref 43, .int 0]),
  .inl (.int, 24, .inl fun _ => 0),
  .inr (2, [.ref 45, .int 0, .int 0]),
  .inl (.object RX3, 8, .inr (.inr (.inr (.inr (va_up (va_up (va_up (fun _ => none) 0 (some 46)) 1 (some 53)) 2 (some 60)))))),
  .inr (3, [.int 0, .int 0, .ref 47, .int 0, .ref 48, .int 0, .ref 49, .ref 50, .ref 51, .ref 52, .int 0, .int 0, .int 0, .int 0, .int 0]),
  .inl (.int, 8, .inl fun _ => 0),
  .inl (.boolean, 20, .inl fun _ => 0),
  .inl (.int, 20, .inl fun _ => 0),
  .inl (.int, 20, .inl fun _ => 0),
  .inl (.int, 20, .inl fun _ => 0),
  .inl (.int, 20, .inl fun _ => 0),
  .inr (3, [.int 0, .int 0, .ref 54, .int 0, .ref 55, .int 0, .ref 56, .ref 57, .ref 58, .ref 59, .int 0, .int 0, .int 0, .int 0, .int 0]),
  .inl (.int, 8, .inl fun _ => 0),
  .inl (.boolean, 20, .inl fun _ => 0),
  .inl (.int, 20, .inl fun _ => 0),
  .inl (.int, 20, .inl fun _ => 0),
  .inl (.int, 20, .inl fun _ => 0),
  .inl (.int, 20, .inl fun _ => 0),
  .inr (3, [.int 0, .int 0, .ref 61, .int 0, .ref 62, .int 0, .ref 63, .ref 64, .ref 65, .ref 66, .int 0, .int 0, .int 0, .int 0, .int 0]),
  .inl (.int, 8, .inl fun _ => 0),
  .inl (.boolean, 20, .inl fun _ => 0),
  .inl (.int, 20, .inl fun _ => 0),
  .inl (.int, 20, .inl fun _ => 0),
  .inl (.int, 20, .inl fun _ => 0),
  .inl (.int, 20, .inl fun _ => 0),
  .inr (3, [.int 0, .int 0, .ref 68, .int 0, .ref 69, .int 0, .ref 70, .ref 71, .ref 72, .ref 73, .int 0, .int 0, .int 0, .int 0, .int 0]),
  .inl (.int, 8, .inl fun _ => 0),
  .inl (.boolean, 20, .inl fun _ => 0),
  .inl (.int, 20, .inl fun _ => 0),
  .inl (.int, 20, .inl fun _ => 0),
  .inl (.int, 20, .inl fun _ => 0),
  .inl (.int, 20, .inl fun _ => 0)]
def hx_18 : a_H := [.inr (8, [.ref 1, .int 0, .ref 2, .int 0, .ref 3, .ref 5, .ref 10, .ref 42, .null, .null, .null, .null, .null, .null, .null, .int 0]),
  .inl (.byte, 600, .inl fun _ => 0),
  .inl (.byte, 16, .inl fun _ => 0),
  .inr (7, [.ref 4, .int 0, .int 0, .int 0, .int 0, .int 0, .int (0 : Int32), .int (-1 : Int32)]),
  .inl (.byte, 0, .inl fun _ => 0),
  .inr (6, [.int 0, .ref 6, .ref 7, .ref 8, .int 0, .ref 9, .int 0]),
  .inl (.int, 8, .inl fun _ => 0),
  .inl (.byte, 48, .inl fun _ => 0),
  .inl (.int, 8, .inl fun _ => 0),
  .inl (.int, 3, .inl fun _ => 0),
  .inr (5, [.ref 11, .int 0]),
  .inl (.array .int, 30, .inr (.inr (.inr (.inr (fun i => if i < 30 then some (12 + i) else none))))),
  .inl (.int, 7, .inl fun _ => 0),
  .inl (.int, 7, .inl fun _ => 0),
  .inl (.int, 7, .inl fun _ => 0),
  .inl (.int, 7, .inl fun _ => 0),
  .inl (.int, 7, .inl fun _ => 0),
  .inl (.int, 7, .inl fun _ => 0),
  .inl (.int, 7, .inl fun _ => 0),
  .inl (.int, 7, .inl fun _ => 0),
  .inl (.int, 7, .inl fun _ => 0),
  .inl (.int, 7, .inl fun _ => 0),
  .inl (.int, 7, .inl fun _ => 0),
  .inl (.int, 7, .inl fun _ => 0),
  .inl (.int, 7, .inl fun _ => 0),
  .inl (.int, 7, .inl fun _ => 0),
  .inl (.int, 7, .inl fun _ => 0),
  .inl (.int, 7, .inl fun _ => 0),
  .inl (.int, 7, .inl fun _ => 0),
  .inl (.int, 7, .inl fun _ => 0),
  .inl (.int, 7, .inl fun _ => 0),
  .inl (.int, 7, .inl fun _ => 0),
  .inl (.int, 7, .inl fun _ => 0),
  .inl (.int, 7, .inl fun _ => 0),
  .inl (.int, 7, .inl fun _ => 0),
  .inl (.int, 7, .inl fun _ => 0),
  .inl (.int, 7, .inl fun _ => 0),
  .inl (.int, 7, .inl fun _ => 0),
  .inl (.int, 7, .inl fun _ => 0),
  .inl (.int, 7, .inl fun _ => 0),
  .inl (.int, 7, .inl fun _ => 0),
  .inl (.int, 7, .inl fun _ => 0),
  .inr (0, [.ref 43, .int 0]),
  .inl (.int, 24, .inl fun _ => 0),
  .inr (2, [.ref 45, .int 0, .int 0]),
  .inl (.object RX3, 8, .inr (.inr (.inr (.inr (va_up (va_up (va_up (va_up (fun _ => none) 0 (some 46)) 1 (some 53)) 2 (some 60)) 3 (some 67)))))),
  .inr (3, [.int 0, .int 0, .ref 47, .int 0, .ref 48, .int 0, .ref 49, .ref 50, .ref 51, .ref 52, .int 0, .int 0, .int 0, .int 0, .int 0]),
  .inl (.int, 8, .inl fun _ => 0),
  .inl (.boolean, 20, .inl fun _ => 0),
  .inl (.int, 20, .inl fun _ => 0),
  .inl (.int, 20, .inl fun _ => 0),
  .inl (.int, 20, .inl fun _ => 0),
  .inl (.int, 20, .inl fun _ => 0),
  .inr (3, [.int 0, .int 0, .ref 54, .int 0, .ref 55, .int 0, .ref 56, .ref 57, .ref 58, .ref 59, .int 0, .int 0, .int 0, .int 0, .int 0]),
  .inl (.int, 8, .inl fun _ => 0),
  .inl (.boolean, 20, .inl fun _ => 0),
  .inl (.int, 20, .inl fun _ => 0),
  .inl (.int, 20, .inl fun _ => 0),
  .inl (.int, 20, .inl fun _ => 0),
  .inl (.int, 20, .inl fun _ => 0),
  .inr (3, [.int 0, .int 0, .ref 61, .int 0, .ref 62, .int 0, .ref 63, .ref 64, .ref 65, .ref 66, .int 0, .int 0, .int 0, .int 0, .int 0]),
  .inl (.int, 8, .inl fun _ => 0),
  .inl (.boolean, 20, .inl fun _ => 0),
  .inl (.int, 20, .inl fun _ => 0),
  .inl (.int, 20, .inl fun _ => 0),
  .inl (.int, 20, .inl fun _ => 0),
  .inl (.int, 20, .inl fun _ => 0),
  .inr (3, [.int 0, .int 0, .ref 68, .int 0, .ref 69, .int 0, .ref 70, .ref 71, .ref 72, .ref 73, .int 0, .int 0, .int 0, .int 0, .int 0]),
  .inl (.int, 8, .inl fun _ => 0),
  .inl (.boolean, 20, .inl fun _ => 0),
  .inl (.int, 20, .inl fun _ => 0),
  .inl (.int, 20, .inl fun _ => 0),
  .inl (.int, 20, .inl fun _ => 0),
  .inl (.int, 20, .inl fun _ => 0),
  .inr (3, [.int 0, .int 0, .null, .int 0, .null, .int 0, .null, .null, .null, .null, .int 0, .int 0, .int 0, .int 0, .int 0])]
def hx_19 : a_H := [.inr (8, [.ref 1, .int 0, .ref 2, .int 0, .ref 3, .ref 5, .ref 10, .ref 42, .null, .null, .null, .null, .null, .null, .null, .int 0]),
  .inl (.byte, 600, .inl fun _ => 0),
  .inl (.byte, 16, .inl fun _ => 0),
  .inr (7, [.ref 4, .int 0, .int 0, .int 0, .int 0, .int 0, .int (0 : Int32), .int (-1 : Int32)]),
  .inl (.byte, 0, .inl fun _ => 0),
  .inr (6, [.int 0, .ref 6, .ref 7, .ref 8, .int 0, .ref 9, .int 0]),
  .inl (.int, 8, .inl fun _ => 0),
  .inl (.byte, 48, .inl fun _ => 0),
  .inl (.int, 8, .inl fun _ => 0),
  .inl (.int, 3, .inl fun _ => 0),
  .inr (5, [.ref 11, .int 0]),
  .inl (.array .int, 30, .inr (.inr (.inr (.inr (fun i => if i < 30 then some (12 + i) else none))))),
  .inl (.int, 7, .inl fun _ => 0),
  .inl (.int, 7, .inl fun _ => 0),
  .inl (.int, 7, .inl fun _ => 0),
  .inl (.int, 7, .inl fun _ => 0),
  .inl (.int, 7, .inl fun _ => 0),
  .inl (.int, 7, .inl fun _ => 0),
  .inl (.int, 7, .inl fun _ => 0),
  .inl (.int, 7, .inl fun _ => 0),
  .inl (.int, 7, .inl fun _ => 0),
  .inl (.int, 7, .inl fun _ => 0),
  .inl (.int, 7, .inl fun _ => 0),
  .inl (.int, 7, .inl fun _ => 0),
  .inl (.int, 7, .inl fun _ => 0),
  .inl (.int, 7, .inl fun _ => 0),
  .inl (.int, 7, .inl fun _ => 0),
  .inl (.int, 7, .inl fun _ => 0),
  .inl (.int, 7, .inl fun _ => 0),
  .inl (.int, 7, .inl fun _ => 0),
  .inl (.int, 7, .inl fun _ => 0),
  .inl (.int, 7, .inl fun _ => 0),
  .inl (.int, 7, .inl fun _ => 0),
  .inl (.int, 7, .inl fun _ => 0),
  .inl (.int, 7, .inl fun _ => 0),
  .inl (.int, 7, .inl fun _ => 0),
  .inl (.int, 7, .inl fun _ => 0),
  .inl (.int, 7, .inl fun _ => 0),
  .inl (.int, 7, .inl fun _ => 0),
  .inl (.int, 7, .inl fun _ => 0),
  .inl (.int, 7, .inl fun _ => 0),
  .inl (.int, 7, .inl fun _ => 0),
  .inr (0, [.ref 43, .int 0]),
  .inl (.int, 24, .inl fun _ => 0),
  .inr (2, [.ref 45, .int 0, .int 0]),
  .inl (.object RX3, 8, .inr (.inr (.inr (.inr (va_up (va_up (va_up (va_up (fun _ => none) 0 (some 46)) 1 (some 53)) 2 (some 60)) 3 (some 67)))))),
  .inr (3, [.int 0, .int 0, .ref 47, .int 0, .ref 48, .int 0, .ref 49, .ref 50, .ref 51, .ref 52, .int 0, .int 0, .int 0, .int 0, .int 0]),
  .inl (.int, 8, .inl fun _ => 0),
  .inl (.boolean, 20, .inl fun _ => 0),
  .inl (.int, 20, .inl fun _ => 0),
  .inl (.int, 20, .inl fun _ => 0),
  .inl (.int, 20, .inl fun _ => 0),
  .inl (.int, 20, .inl fun _ => 0),
  .inr (3, [.int 0, .int 0, .ref 54, .int 0, .ref 55, .int 0, .ref 56, .ref 57, .ref 58, .ref 59, .int 0, .int 0, .int 0, .int 0, .int 0]),
  .inl (.int, 8, .inl fun _ => 0),
  .inl (.boolean, 20, .inl fun _ => 0),
  .inl (.int, 20, .inl fun _ => 0),
  .inl (.int, 20, .inl fun _ => 0),
  .inl (.int, 20, .inl fun _ => 0),
  .inl (.int, 20, .inl fun _ => 0),
  .inr (3, [.int 0, .int 0, .ref 61, .int 0, .ref 62, .int 0, .ref 63, .ref 64, .ref 65, .ref 66, .int 0, .int 0, .int 0, .int 0, .int 0]),
  .inl (.int, 8, .inl fun _ => 0),
  .inl (.boolean, 20, .inl fun _ => 0),
  .inl (.int, 20, .inl fun _ => 0),
  .inl (.int, 20, .inl fun _ => 0),
  .inl (.int, 20, .inl fun _ => 0),
  .inl (.int, 20, .inl fun _ => 0),
  .inr (3, [.int 0, .int 0, .ref 68, .int 0, .ref 69, .int 0, .ref 70, .ref 71, .ref 72, .ref 73, .int 0, .int 0, .int 0, .int 0, .int 0]),
  .inl (.int, 8, .inl fun _ => 0),
  .inl (.boolean, 20, .inl fun _ => 0),
  .inl (.int, 20, .inl fun _ => 0),
  .inl (.int, 20, .inl fun _ => 0),
  .inl (.int, 20, .inl fun _ => 0),
  .inl (.int, 20, .inl fun _ => 0),
  .inr (3, [.int 0, .int 0, .ref 75, .int 0, .ref 76, .int 0, .ref 77, .ref 78, .ref 79, .ref 80, .int 0, .int 0, .int 0, .int 0, .int 0]),
  .inl (.int, 8, .inl fun _ => 0),
  .inl (.boolean, 20, .inl fun _ => 0),
  .inl (.int, 20, .inl fun _ => 0),
  .inl (.int, 20, .inl fun _ => 0),
  .inl (.int, 20, .inl fun _ => 0),
  .inl (.int, 20, .inl fun _ => 0)]
def hx_20 : a_H := [.inr (8, [.ref 1, .int 0, .ref 2, .int 0, .ref 3, .ref 5, .ref 10, .ref 42, .null, .null, .null, .null, .null, .null, .null, .int 0]),
  .inl (.byte, 600, .inl fun _ => 0),
  .inl (.byte, 16, .inl fun _ => 0),
  .inr (7, [.ref 4, .int 0, .int 0, .int 0, .int 0, .int 0, .int (0 : Int32), .int (-1 : Int32)]),
  .inl (.byte, 0, .inl fun _ => 0),
  .inr (6, [.int 0, .ref 6, .ref 7, .ref 8, .int 0, .ref 9, .int 0]),
  .inl (.int, 8, .inl fun _ => 0),
  .inl (.byte, 48, .inl fun _ => 0),
  .inl (.int, 8, .inl fun _ => 0),
  .inl (.int, 3, .inl fun _ => 0),
  .inr (5, [.ref 11, .int 0]),
  .inl (.array .int, 30, .inr (.inr (.inr (.inr (fun i => if i < 30 then some (12 + i) else none))))),
  .inl (.int, 7, .inl fun _ => 0),
  .inl (.int, 7, .inl fun _ => 0),
  .inl (.int, 7, .inl fun _ => 0),
  .inl (.int, 7, .inl fun _ => 0),
  .inl (.int, 7, .inl fun _ => 0),
  .inl (.int, 7, .inl fun _ => 0),
  .inl (.int, 7, .inl fun _ => 0),
  .inl (.int, 7, .inl fun _ => 0),
  .inl (.int, 7, .inl fun _ => 0),
  .inl (.int, 7, .inl fun _ => 0),
  .inl (.int, 7, .inl fun _ => 0),
  .inl (.int, 7, .inl fun _ => 0),
  .inl (.int, 7, .inl fun _ => 0),
  .inl (.int, 7, .inl fun _ => 0),
  .inl (.int, 7, .inl fun _ => 0),
  .inl (.int, 7, .inl fun _ => 0),
  .inl (.int, 7, .inl fun _ => 0),
  .inl (.int, 7, .inl fun _ => 0),
  .inl (.int, 7, .inl fun _ => 0),
  .inl (.int, 7, .inl fun _ => 0),
  .inl (.int, 7, .inl fun _ => 0),
  .inl (.int, 7, .inl fun _ => 0),
  .inl (.int, 7, .inl fun _ => 0),
  .inl (.int, 7, .inl fun _ => 0),
  .inl (.int, 7, .inl fun _ => 0),
  .inl (.int, 7, .inl fun _ => 0),
  .inl (.int, 7, .inl fun _ => 0),
  .inl (.int, 7, .inl fun _ => 0),
  .inl (.int, 7, .inl fun _ => 0),
  .inl (.int, 7, .inl fun _ => 0),
  .inr (0, [.ref 43, .int 0]),
  .inl (.int, 24, .inl fun _ => 0),
  .inr (2, [.ref 45, .int 0, .int 0]),
  .inl (.object RX3, 8, .inr (.inr (.inr (.inr (va_up (va_up (va_up (va_up (va_up (fun _ => none) 0 (some 46)) 1 (some 53)) 2 (some 60)) 3 (some 67)) 4 (some 74)))))),
  .inr (3, [.int 0, .int 0, .ref 47, .int 0, .ref 48, .int 0, .ref 49, .ref 50, .ref 51, .ref 52, .int 0, .int 0, .int 0, .int 0, .int 0]),
  .inl (.int, 8, .inl fun _ => 0),
  .inl (.boolean, 20, .inl fun _ => 0),
  .inl (.int, 20, .inl fun _ => 0),
  .inl (.int, 20, .inl fun _ => 0),
  .inl (.int, 20, .inl fun _ => 0),
  .inl (.int, 20, .inl fun _ => 0),
  .inr (3, [.int 0, .int 0, .ref 54, .int 0, .ref 55, .int 0, .ref 56, .ref 57, .ref 58, .ref 59, .int 0, .int 0, .int 0, .int 0, .int 0]),
  .inl (.int, 8, .inl fun _ => 0),
  .inl (.boolean, 20, .inl fun _ => 0),
  .inl (.int, 20, .inl fun _ => 0),
  .inl (.int, 20, .inl fun _ => 0),
  .inl (.int, 20, .inl fun _ => 0),
  .inl (.int, 20, .inl fun _ => 0),
  .inr (3, [.int 0, .int 0, .ref 61, .int 0, .ref 62, .int 0, .ref 63, .ref 64, .ref 65, .ref 66, .int 0, .int 0, .int 0, .int 0, .int 0]),
  .inl (.int, 8, .inl fun _ => 0),
  .inl (.boolean, 20, .inl fun _ => 0),
  .inl (.int, 20, .inl fun _ => 0),
  .inl (.int, 20, .inl fun _ => 0),
  .inl (.int, 20, .inl fun _ => 0),
  .inl (.int, 20, .inl fun _ => 0),
  .inr (3, [.int 0, .int 0, .ref 68, .int 0, .ref 69, .int 0, .ref 70, .ref 71, .ref 72, .ref 73, .int 0, .int 0, .int 0, .int 0, .int 0]),
  .inl (.int, 8, .inl fun _ => 0),
  .inl (.boolean, 20, .inl fun _ => 0),
  .inl (.int, 20, .inl fun _ => 0),
  .inl (.int, 20, .inl fun _ => 0),
  .inl (.int, 20, .inl fun _ => 0),
  .inl (.int, 20, .inl fun _ => 0),
  .inr (3, [.int 0, .int 0, .ref 75, .int 0, .ref 76, .int 0, .ref 77, .ref 78, .ref 79, .ref 80, .int 0, .int 0, .int 0, .int 0, .int 0]),
  .inl (.int, 8, .inl fun _ => 0),
  .inl (.boolean, 20, .inl fun _ => 0),
  .inl (.int, 20, .inl fun _ => 0),
  .inl (.int, 20, .inl fun _ => 0),
  .inl (.int, 20, .inl fun _ => 0),
  .inl (.int, 20, .inl fun _ => 0),
  .inr (3, [.int 0, .int 0, .null, .int 0, .null, .int 0, .null, .null, .null, .null, .int 0, .int 0, .int 0, .int 0, .int 0])]
def hx_21 : a_H := [.inr (8, [.ref 1, .int 0, .ref 2, .int 0, .ref 3, .ref 5, .ref 10, .ref 42, .null, .null, .null, .null, .null, .null, .null, .int 0]),
  .inl (.byte, 600, .inl fun _ => 0),
  .inl (.byte, 16, .inl fun _ => 0),
  .inr (7, [.ref 4, .int 0, .int 0, .int 0, .int 0, .int 0, .int (0 : Int32), .int (-1 : Int32)]),
  .inl (.byte, 0, .inl fun _ => 0),
  .inr (6, [.int 0, .ref 6, .ref 7, .ref 8, .int 0, .ref 9, .int 0]),
  .inl (.int, 8, .inl fun _ => 0),
  .inl (.byte, 48, .inl fun _ => 0),
  .inl (.int, 8, .inl fun _ => 0),
  .inl (.int, 3, .inl fun _ => 0),
  .inr (5, [.ref 11, .int 0]),
  .inl (.array .int, 30, .inr (.inr (.inr (.inr (fun i => if i < 30 then some (12 + i) else none))))),
  .inl (.int, 7, .inl fun _ => 0),
  .inl (.int, 7, .inl fun _ => 0),
  .inl (.int, 7, .inl fun _ => 0),
  .inl (.int, 7, .inl fun _ => 0),
  .inl (.int, 7, .inl fun _ => 0),
  .inl (.int, 7, .inl fun _ => 0),
  .inl (.int, 7, .inl fun _ => 0),
  .inl (.int, 7, .inl fun _ => 0),
  .inl (.int, 7, .inl fun _ => 0),
  .inl (.int, 7, .inl fun _ => 0),
  .inl (.int, 7, .inl fun _ => 0),
  .inl (.int, 7, .inl fun _ => 0),
  .inl (.int, 7, .inl fun _ => 0),
  .inl (.int, 7, .inl fun _ => 0),
  .inl (.int, 7, .inl fun _ => 0),
  .inl (.int, 7, .inl fun _ => 0),
  .inl (.int, 7, .inl fun _ => 0),
  .inl (.int, 7, .inl fun _ => 0),
  .inl (.int, 7, .inl fun _ => 0),
  .inl (.int, 7, .inl fun _ => 0),
  .inl (.int, 7, .inl fun _ => 0),
  .inl (.int, 7, .inl fun _ => 0),
  .inl (.int, 7, .inl fun _ => 0),
  .inl (.int, 7, .inl fun _ => 0),
  .inl (.int, 7, .inl fun _ => 0),
  .inl (.int, 7, .inl fun _ => 0),
  .inl (.int, 7, .inl fun _ => 0),
  .inl (.int, 7, .inl fun _ => 0),
  .inl (.int, 7, .inl fun _ => 0),
  .inl (.int, 7, .inl fun _ => 0),
  .inr (0, [.ref 43, .int 0]),
  .inl (.int, 24, .inl fun _ => 0),
  .inr (2, [.ref 45, .int 0, .int 0]),
  .inl (.object RX3, 8, .inr (.inr (.inr (.inr (va_up (va_up (va_up (va_up (va_up (fun _ => none) 0 (some 46)) 1 (some 53)) 2 (some 60)) 3 (some 67)) 4 (some 74)))))),
  .inr (3, [.int 0, .int 0, .ref 47, .int 0, .ref 48, .int 0, .ref 49, .ref 50, .ref 51, .ref 52, .int 0, .int 0, .int 0, .int 0, .int 0]),
  .inl (.int, 8, .inl fun _ => 0),
  .inl (.boolean, 20, .inl fun _ => 0),
  .inl (.int, 20, .inl fun _ => 0),
  .inl (.int, 20, .inl fun _ => 0),
  .inl (.int, 20, .inl fun _ => 0),
  .inl (.int, 20, .inl fun _ => 0),
  .inr (3, [.int 0, .int 0, .ref 54, .int 0, .ref 55, .int 0, .ref 56, .ref 57, .ref 58, .ref 59, .int 0, .int 0, .int 0, .int 0, .int 0]),
  .inl (.int, 8, .inl fun _ => 0),
  .inl (.boolean, 20, .inl fun _ => 0),
  .inl (.int, 20, .inl fun _ => 0),
  .inl (.int, 20, .inl fun _ => 0),
  .inl (.int, 20, .inl fun _ => 0),
  .inl (.int, 20, .inl fun _ => 0),
  .inr (3, [.int 0, .int 0, .ref 61, .int 0, .ref 62, .int 0, .ref 63, .ref 64, .ref 65, .ref 66, .int 0, .int 0, .int 0, .int 0, .int 0]),
  .inl (.int, 8, .inl fun _ => 0),
  .inl (.boolean, 20, .inl fun _ => 0),
  .inl (.int, 20, .inl fun _ => 0),
  .inl (.int, 20, .inl fun _ => 0),
  .inl (.int, 20, .inl fun _ => 0),
  .inl (.int, 20, .inl fun _ => 0),
  .inr (3, [.int 0, .int 0, .ref 68, .int 0, .ref 69, .int 0, .ref 70, .ref 71, .ref 72, .ref 73, .int 0, .int 0, .int 0, .int 0, .int 0]),
  .inl (.int, 8, .inl fun _ => 0),
  .inl (.boolean, 20, .inl fun _ => 0),
  .inl (.int, 20, .inl fun _ => 0),
  .inl (.int, 20, .inl fun _ => 0),
  .inl (.int, 20, .inl fun _ => 0),
  .inl (.int, 20, .inl fun _ => 0),
  .inr (3, [.int 0, .int 0, .ref 75, .int 0, .ref 76, .int 0, .ref 77, .ref 78, .ref 79, .ref 80, .int 0, .int 0, .int 0, .int 0, .int 0]),
  .inl (.int, 8, .inl fun _ => 0),
  .inl (.boolean, 20, .inl fun _ => 0),
  .inl (.int, 20, .inl fun _ => 0),
  .inl (.int, 20, .inl fun _ => 0),
  .inl (.int, 20, .inl fun _ => 0),
  .inl (.int, 20, .inl fun _ => 0),
  .inr (3, [.int 0, .int 0, .ref 82, .int 0, .ref 83, .int 0, .ref 84, .ref 85, .ref 86, .ref 87, .int 0, .int 0, .int 0, .int 0, .int 0]),
  .inl (.int, 8, .inl fun _ => 0),
  .inl (.boolean, 20, .inl fun _ => 0),
  .inl (.int, 20, .inl fun _ => 0),
  .inl (.int, 20, .inl fun _ => 0),
  .inl (.int, 20, .inl fun _ => 0),
  .inl (.int, 20, .inl fun _ => 0)]
def hx_22 : a_H := [.inr (8, [.ref 1, .int 0, .ref 2, .int 0, .ref 3, .ref 5, .ref 10, .ref 42, .null, .null, .null, .null, .null, .null, .null, .int 0]),
  .inl (.byte, 600, .inl fun _ => 0),
  .inl (.byte, 16, .inl fun _ => 0),
  .inr (7, [.ref 4, .int 0, .int 0, .int 0, .int 0, .int 0, .int (0 : Int32), .int (-1 : Int32)]),
  .inl (.byte, 0, .inl fun _ => 0),
  .inr (6, [.int 0, .ref 6, .ref 7, .ref 8, .int 0, .ref 9, .int 0]),
  .inl (.int, 8, .inl fun _ => 0),
  .inl (.byte, 48, .inl fun _ => 0),
  .inl (.int, 8, .inl fun _ => 0),
  .inl (.int, 3, .inl fun _ => 0),
  .inr (5, [.ref 11, .int 0]),
  .inl (.array .int, 30, .inr (.inr (.inr (.inr (fun i => if i < 30 then some (12 + i) else none))))),
  .inl (.int, 7, .inl fun _ => 0),
  .inl (.int, 7, .inl fun _ => 0),
  .inl (.int, 7, .inl fun _ => 0),
  .inl (.int, 7, .inl fun _ => 0),
  .inl (.int, 7, .inl fun _ => 0),
  .inl (.int, 7, .inl fun _ => 0),
  .inl (.int, 7, .inl fun _ => 0),
  .inl (.int, 7, .inl fun _ => 0),
  .inl (.int, 7, .inl fun _ => 0),
  .inl (.int, 7, .inl fun _ => 0),
  .inl (.int, 7, .inl fun _ => 0),
  .inl (.int, 7, .inl fun _ => 0),
  .inl (.int, 7, .inl fun _ => 0),
  .inl (.int, 7, .inl fun _ => 0),
  .inl (.int, 7, .inl fun _ => 0),
  .inl (.int, 7, .inl fun _ => 0),
  .inl (.int, 7, .inl fun _ => 0),
  .inl (.int, 7, .inl fun _ => 0),
  .inl (.int, 7, .inl fun _ => 0),
  .inl (.int, 7, .inl fun _ => 0),
  .inl (.int, 7, .inl fun _ => 0),
  .inl (.int, 7, .inl fun _ => 0),
  .inl (.int, 7, .inl fun _ => 0),
  .inl (.int, 7, .inl fun _ => 0),
  .inl (.int, 7, .inl fun _ => 0),
  .inl (.int, 7, .inl fun _ => 0),
  .inl (.int, 7, .inl fun _ => 0),
  .inl (.int, 7, .inl fun _ => 0),
  .inl (.int, 7, .inl fun _ => 0),
  .inl (.int, 7, .inl fun _ => 0),
  .inr (0, [.ref 43, .int 0]),
  .inl (.int, 24, .inl fun _ => 0),
  .inr (2, [.ref 45, .int 0, .int 0]),
  .inl (.object RX3, 8, .inr (.inr (.inr (.inr (va_up (va_up (va_up (va_up (va_up (va_up (fun _ => none) 0 (some 46)) 1 (some 53)) 2 (some 60)) 3 (some 67)) 4 (some 74)) 5 (some 81)))))),
  .inr (3, [.int 0, .int 0, .ref 47, .int 0, .ref 48, .int 0, .ref 49, .ref 50, .ref 51, .ref 52, .int 0, .int 0, .int 0, .int 0, .int 0]),
  .inl (.int, 8, .inl fun _ => 0),
  .inl (.boolean, 20, .inl fun _ => 0),
  .inl (.int, 20, .inl fun _ => 0),
  .inl (.int, 20, .inl fun _ => 0),
  .inl (.int, 20, .inl fun _ => 0),
  .inl (.int, 20, .inl fun _ => 0),
  .inr (3, [.int 0, .int 0, .ref 54, .int 0, .ref 55, .int 0, .ref 56, .ref 57, .ref 58, .ref 59, .int 0, .int 0, .int 0, .int 0, .int 0]),
  .inl (.int, 8, .inl fun _ => 0),
  .inl (.boolean, 20, .inl fun _ => 0),
  .inl (.int, 20, .inl fun _ => 0),
  .inl (.int, 20, .inl fun _ => 0),
  .inl (.int, 20, .inl fun _ => 0),
  .inl (.int, 20, .inl fun _ => 0),
  .inr (3, [.int 0, .int 0, .ref 61, .int 0, .ref 62, .int 0, .ref 63, .ref 64, .ref 65, .ref 66, .int 0, .int 0, .int 0, .int 0, .int 0]),
  .inl (.int, 8, .inl fun _ => 0),
  .inl (.boolean, 20, .inl fun _ => 0),
  .inl (.int, 20, .inl fun _ => 0),
  .inl (.int, 20, .inl fun _ => 0),
  .inl (.int, 20, .inl fun _ => 0),
  .inl (.int, 20, .inl fun _ => 0),
  .inr (3, [.int 0, .int 0, .ref 68, .int 0, .ref 69, .int 0, .ref 70, .ref 71, .ref 72, .ref 73, .int 0, .int 0, .int 0, .int 0, .int 0]),
  .inl (.int, 8, .inl fun _ => 0),
  .inl (.boolean, 20, .inl fun _ => 0),
  .inl (.int, 20, .inl fun _ => 0),
  .inl (.int, 20, .inl fun _ => 0),
  .inl (.int, 20, .inl fun _ => 0),
  .inl (.int, 20, .inl fun _ => 0),
  .inr (3, [.int 0, .int 0, .ref 75, .int 0, .ref 76, .int 0, .ref 77, .ref 78, .ref 79, .ref 80, .int 0, .int 0, .int 0, .int 0, .int 0]),
  .inl (.int, 8, .inl fun _ => 0),
  .inl (.boolean, 20, .inl fun _ => 0),
  .inl (.int, 20, .inl fun _ => 0),
  .inl (.int, 20, .inl fun _ => 0),
  .inl (.int, 20, .inl fun _ => 0),
  .inl (.int, 20, .inl fun _ => 0),
  .inr (3, [.int 0, .int 0, .ref 82, .int 0, .ref 83, .int 0, .ref 84, .ref 85, .ref 86, .ref 87, .int 0, .int 0, .int 0, .int 0, .int 0]),
  .inl (.int, 8, .inl fun _ => 0),
  .inl (.boolean, 20, .inl fun _ => 0),
  .inl (.int, 20, .inl fun _ => 0),
  .inl (.int, 20, .inl fun _ => 0),
  .inl (.int, 20, .inl fun _ => 0),
  .inl (.int, 20, .inl fun _ => 0),
  .inr (3, [.int 0, .int 0, .null, .int 0, .null, .int 0, .null, .null, .null, .null, .int 0, .int 0, .int 0, .int 0, .int 0])]
def hx_23 : a_H := [.inr (8, [.ref 1, .int 0, .ref 2, .int 0, .ref 3, .ref 5, .ref 10, .ref 42, .null, .null, .null, .null, .null, .null, .null, .int 0]),
  .inl (.byte, 600, .inl fun _ => 0),
  .inl (.byte, 16, .inl fun _ => 0),
  .inr (7, [.ref 4, .int 0, .int 0, .int 0, .int 0, .int 0, .int (0 : Int32), .int (-1 : Int32)]),
  .inl (.byte, 0, .inl fun _ => 0),
  .inr (6, [.int 0, .ref 6, .ref 7, .ref 8, .int 0, .ref 9, .int 0]),
  .inl (.int, 8, .inl fun _ => 0),
  .inl (.byte, 48, .inl fun _ => 0),
  .inl (.int, 8, .inl fun _ => 0),
  .inl (.int, 3, .inl fun _ => 0),
  .inr (5, [.ref 11, .int 0]),
  .inl (.array .int, 30, .inr (.inr (.inr (.inr (fun i => if i < 30 then some (12 + i) else none))))),
  .inl (.int, 7, .inl fun _ => 0),
  .inl (.int, 7, .inl fun _ => 0),
  .inl (.int, 7, .inl fun _ => 0),
  .inl (.int, 7, .inl fun _ => 0),
  .inl (.int, 7, .inl fun _ => 0),
  .inl (.int, 7, .inl fun _ => 0),
  .inl (.int, 7, .inl fun _ => 0),
  .inl (.int, 7, .inl fun _ => 0),
  .inl (.int, 7, .inl fun _ => 0),
  .inl (.int, 7, .inl fun _ => 0),
  .inl (.int, 7, .inl fun _ => 0),
  .inl (.int, 7, .inl fun _ => 0),
  .inl (.int, 7, .inl fun _ => 0),
  .inl (.int, 7, .inl fun _ => 0),
  .inl (.int, 7, .inl fun _ => 0),
  .inl (.int, 7, .inl fun _ => 0),
  .inl (.int, 7, .inl fun _ => 0),
  .inl (.int, 7, .inl fun _ => 0),
  .inl (.int, 7, .inl fun _ => 0),
  .inl (.int, 7, .inl fun _ => 0),
  .inl (.int, 7, .inl fun _ => 0),
  .inl (.int, 7, .inl fun _ => 0),
  .inl (.int, 7, .inl fun _ => 0),
  .inl (.int, 7, .inl fun _ => 0),
  .inl (.int, 7, .inl fun _ => 0),
  .inl (.int, 7, .inl fun _ => 0),
  .inl (.int, 7, .inl fun _ => 0),
  .inl (.int, 7, .inl fun _ => 0),
  .inl (.int, 7, .inl fun _ => 0),
  .inl (.int, 7, .inl fun _ => 0),
  .inr (0, [.ref 43, .int 0]),
  .inl (.int, 24, .inl fun _ => 0),
  .inr (2, [.ref 45, .int 0, .int 0]),
  .inl (.object RX3, 8, .inr (.inr (.inr (.inr (va_up (va_up (va_up (va_up (va_up (va_up (fun _ => none) 0 (some 46)) 1 (some 53)) 2 (some 60)) 3 (some 67)) 4 (some 74)) 5 (some 81)))))),
  .inr (3, [.int 0, .int 0, .ref 47, .int 0, .ref 48, .int 0, .ref 49, .ref 50, .ref 51, .ref 52, .int 0, .int 0, .int 0, .int 0, .int 0]),
  .inl (.int, 8, .inl fun _ => 0),
  .inl (.boolean, 20, .inl fun _ => 0),
  .inl (.int, 20, .inl fun _ => 0),
  .inl (.int, 20, .inl fun _ => 0),
  .inl (.int, 20, .inl fun _ => 0),
  .inl (.int, 20, .inl fun _ => 0),
  .inr (3, [.int 0, .int 0, .ref 54, .int 0, .ref 55, .int 0, .ref 56, .ref 57, .ref 58, .ref 59, .int 0, .int 0, .int 0, .int 0, .int 0]),
  .inl (.int, 8, .inl fun _ => 0),
  .inl (.boolean, 20, .inl fun _ => 0),
  .inl (.int, 20, .inl fun _ => 0),
  .inl (.int, 20, .inl fun _ => 0),
  .inl (.int, 20, .inl fun _ => 0),
  .inl (.int, 20, .inl fun _ => 0),
  .inr (3, [.int 0, .int 0, .ref 61, .int 0, .ref 62, .int 0, .ref 63, .ref 64, .ref 65, .ref 66, .int 0, .int 0, .int 0, .int 0, .int 0]),
  .inl (.int, 8, .inl fun _ => 0),
  .inl (.boolean, 20, .inl fun _ => 0),
  .inl (.int, 20, .inl fun _ => 0),
  .inl (.int, 20, .inl fun _ => 0),
  .inl (.int, 20, .inl fun _ => 0),
  .inl (.int, 20, .inl fun _ => 0),
  .inr (3, [.int 0, .int 0, .ref 68, .int 0, .ref 69, .int 0, .ref 70, .ref 71, .ref 72, .ref 73, .int 0, .int 0, .int 0, .int 0, .int 0]),
  .inl (.int, 8, .inl fun _ => 0),
  .inl (.boolean, 20, .inl fun _ => 0),
  .inl (.int, 20, .inl fun _ => 0),
  .inl (.int, 20, .inl fun _ => 0),
  .inl (.int, 20, .inl fun _ => 0),
  .inl (.int, 20, .inl fun _ => 0),
  .inr (3, [.int 0, .int 0, .ref 75, .int 0, .ref 76, .int 0, .ref 77, .ref 78, .ref 79, .ref 80, .int 0, .int 0, .int 0, .int 0, .int 0]),
  .inl (.int, 8, .inl fun _ => 0),
  .inl (.boolean, 20, .inl fun _ => 0),
  .inl (.int, 20, .inl fun _ => 0),
  .inl (.int, 20, .inl fun _ => 0),
  .inl (.int, 20, .inl fun _ => 0),
  .inl (.int, 20, .inl fun _ => 0),
  .inr (3, [.int 0, .int 0, .ref 82, .int 0, .ref 83, .int 0, .ref 84, .ref 85, .ref 86, .ref 87, .int 0, .int 0, .int 0, .int 0, .int 0]),
  .inl (.int, 8, .inl fun _ => 0),
  .inl (.boolean, 20, .inl fun _ => 0),
  .inl (.int, 20, .inl fun _ => 0),
  .inl (.int, 20, .inl fun _ => 0),
  .inl (.int, 20, .inl fun _ => 0),
  .inl (.int, 20, .inl fun _ => 0),
  .inr (3, [.int 0, .int 0, .ref 89, .int 0, .ref 90, .int 0, .ref 91, .ref 92, .ref 93, .ref 94, .int 0, .int 0, .int 0, .int 0, .int 0]),
  .inl (.int, 8, .inl fun _ => 0),
  .inl (.boolean, 20, .inl fun _ => 0),
  .inl (.int, 20, .inl fun _ => 0),
  .inl (.int, 20, .inl fun _ => 0),
  .inl (.int, 20, .inl fun _ => 0),
  .inl (.int, 20, .inl fun _ => 0)]
def hx_24 : a_H := [.inr (8, [.ref 1, .int 0, .ref 2, .int 0, .ref 3, .ref 5, .ref 10, .ref 42, .null, .null, .null, .null, .null, .null, .null, .int 0]),
  .inl (.byte, 600, .inl fun _ => 0),
  .inl (.byte, 16, .inl fun _ => 0),
  .inr (7, [.ref 4, .int 0, .int 0, .int 0, .int 0, .int 0, .int (0 : Int32), .int (-1 : Int32)]),
  .inl (.byte, 0, .inl fun _ => 0),
  .inr (6, [.int 0, .ref 6, .ref 7, .ref 8, .int 0, .ref 9, .int 0]),
  .inl (.int, 8, .inl fun _ => 0),
  .inl (.byte, 48, .inl fun _ => 0),
  .inl (.int, 8, .inl fun _ => 0),
  .inl (.int, 3, .inl fun _ => 0),
  .inr (5, [.ref 11, .int 0]),
  .inl (.array .int, 30, .inr (.inr (.inr (.inr (fun i => if i < 30 then some (12 + i) else none))))),
  .inl (.int, 7, .inl fun _ => 0),
  .inl (.int, 7, .inl fun _ => 0),
  .inl (.int, 7, .inl fun _ => 0),
  .inl (.int, 7, .inl fun _ => 0),
  .inl (.int, 7, .inl fun _ => 0),
  .inl (.int, 7, .inl fun _ => 0),
  .inl (.int, 7, .inl fun _ => 0),
  .inl (.int, 7, .inl fun _ => 0),
  .inl (.int, 7, .inl fun _ => 0),
  .inl (.int, 7, .inl fun _ => 0),
  .inl (.int, 7, .inl fun _ => 0),
  .inl (.int, 7, .inl fun _ => 0),
  .inl (.int, 7, .inl fun _ => 0),
  .inl (.int, 7, .inl fun _ => 0),
  .inl (.int, 7, .inl fun _ => 0),
  .inl (.int, 7, .inl fun _ => 0),
  .inl (.int, 7, .inl fun _ => 0),
  .inl (.int, 7, .inl fun _ => 0),
  .inl (.int, 7, .inl fun _ => 0),
  .inl (.int, 7, .inl fun _ => 0),
  .inl (.int, 7, .inl fun _ => 0),
  .inl (.int, 7, .inl fun _ => 0),
  .inl (.int, 7, .inl fun _ => 0),
  .inl (.int, 7, .inl fun _ => 0),
  .inl (.int, 7, .inl fun _ => 0),
  .inl (.int, 7, .inl fun _ => 0),
  .inl (.int, 7, .inl fun _ => 0),
  .inl (.int, 7, .inl fun _ => 0),
  .inl (.int, 7, .inl fun _ => 0),
  .inl (.int, 7, .inl fun _ => 0),
  .inr (0, [.ref 43, .int 0]),
  .inl (.int, 24, .inl fun _ => 0),
  .inr (2, [.ref 45, .int 0, .int 0]),
  .inl (.object RX3, 8, .inr (.inr (.inr (.inr (va_up (va_up (va_up (va_up (va_up (va_up (va_up (fun _ => none) 0 (some 46)) 1 (some 53)) 2 (some 60)) 3 (some 67)) 4 (some 74)) 5 (some 81)) 6 (some 88)))))),
  .inr (3, [.int 0, .int 0, .ref 47, .int 0, .ref 48, .int 0, .ref 49, .ref 50, .ref 51, .ref 52, .int 0, .int 0, .int 0, .int 0, .int 0]),
  .inl (.int, 8, .inl fun _ => 0),
  .inl (.boolean, 20, .inl fun _ => 0),
  .inl (.int, 20, .inl fun _ => 0),
  .inl (.int, 20, .inl fun _ => 0),
  .inl (.int, 20, .inl fun _ => 0),
  .inl (.int, 20, .inl fun _ => 0),
  .inr (3, [.int 0, .int 0, .ref 54, .int 0, .ref 55, .int 0, .ref 56, .ref 57, .ref 58, .ref 59, .int 0, .int 0, .int 0, .int 0, .int 0]),
  .inl (.int, 8, .inl fun _ => 0),
  .inl (.boolean, 20, .inl fun _ => 0),
  .inl (.int, 20, .inl fun _ => 0),
  .inl (.int, 20, .inl fun _ => 0),
  .inl (.int, 20, .inl fun _ => 0),
  .inl (.int, 20, .inl fun _ => 0),
  .inr (3, [.int 0, .int 0, .ref 61, .int 0, .ref 62, .int 0, .ref 63, .ref 64, .ref 65, .ref 66, .int 0, .int 0, .int 0, .int 0, .int 0]),
  .inl (.int, 8, .inl fun _ => 0),
  .inl (.boolean, 20, .inl fun _ => 0),
  .inl (.int, 20, .inl fun _ => 0),
  .inl (.int, 20, .inl fun _ => 0),
  .inl (.int, 20, .inl fun _ => 0),
  .inl (.int, 20, .inl fun _ => 0),
  .inr (3, [.int 0, .int 0, .ref 68, .int 0, .ref 69, .int 0, .ref 70, .ref 71, .ref 72, .ref 73, .int 0, .int 0, .int 0, .int 0, .int 0]),
  .inl (.int, 8, .inl fun _ => 0),
  .inl (.boolean, 20, .inl fun _ => 0),
  .inl (.int, 20, .inl fun _ => 0),
  .inl (.int, 20, .inl fun _ => 0),
  .inl (.int, 20, .inl fun _ => 0),
  .inl (.int, 20, .inl fun _ => 0),
  .inr (3, [.int 0, .int 0, .ref 75, .int 0, .ref 76, .int 0, .ref 77, .ref 78, .ref 79, .ref 80, .int 0, .int 0, .int 0, .int 0, .int 0]),
  .inl (.int, 8, .inl fun _ => 0),
  .inl (.boolean, 20, .inl fun _ => 0),
  .inl (.int, 20, .inl fun _ => 0),
  .inl (.int, 20, .inl fun _ => 0),
  .inl (.int, 20, .inl fun _ => 0),
  .inl (.int, 20, .inl fun _ => 0),
  .inr (3, [.int 0, .int 0, .ref 82, .int 0, .ref 83, .int 0, .ref 84, .ref 85, .ref 86, .ref 87, .int 0, .int 0, .int 0, .int 0, .int 0]),
  .inl (.int, 8, .inl fun _ => 0),
  .inl (.boolean, 20, .inl fun _ => 0),
  .inl (.int, 20, .inl fun _ => 0),
  .inl (.int, 20, .inl fun _ => 0),
  .inl (.int, 20, .inl fun _ => 0),
  .inl (.int, 20, .inl fun _ => 0),
  .inr (3, [.int 0, .int 0, .ref 89, .int 0, .ref 90, .int 0, .ref 91, .ref 92, .ref 93, .ref 94, .int 0, .int 0, .int 0, .int 0, .int 0]),
  .inl (.int, 8, .inl fun _ => 0),
  .inl (.boolean, 20, .inl fun _ => 0),
  .inl (.int, 20, .inl fun _ => 0),
  .inl (.int, 20, .inl fun _ => 0),
  .inl (.int, 20, .inl fun _ => 0),
  .inl (.int, 20, .inl fun _ => 0),
  .inr (3, [.int 0, .int 0, .null, .int 0, .null, .int 0, .null, .null, .null, .null, .int 0, .int 0, .int 0, .int 0, .int 0])]
def hx_25 : a_H := [.inr (8, [.ref 1, .int 0, .ref 2, .int 0, .ref 3, .ref 5, .ref 10, .ref 42, .null, .null, .null, .null, .null, .null, .null, .int 0]),
  .inl (.byte, 600, .inl fun _ => 0),
  .inl (.byte, 16, .inl fun _ => 0),
  .inr (7, [.ref 4, .int 0, .int 0, .int 0, .int 0, .int 0, .int (0 : Int32), .int (-1 : Int32)]),
  .inl (.byte, 0, .inl fun _ => 0),
  .inr (6, [.int 0, .ref 6, .ref 7, .ref 8, .int 0, .ref 9, .int 0]),
  .inl (.int, 8, .inl fun _ => 0),
  .inl (.byte, 48, .inl fun _ => 0),
  .inl (.int, 8, .inl fun _ => 0),
  .inl (.int, 3, .inl fun _ => 0),
  .inr (5, [.ref 11, .int 0]),
  .inl (.array .int, 30, .inr (.inr (.inr (.inr (fun i => if i < 30 then some (12 + i) else none))))),
  .inl (.int, 7, .inl fun _ => 0),
  .inl (.int, 7, .inl fun _ => 0),
  .inl (.int, 7, .inl fun _ => 0),
  .inl (.int, 7, .inl fun _ => 0),
  .inl (.int, 7, .inl fun _ => 0),
  .inl (.int, 7, .inl fun _ => 0),
  .inl (.int, 7, .inl fun _ => 0),
  .inl (.int, 7, .inl fun _ => 0),
  .inl (.int, 7, .inl fun _ => 0),
  .inl (.int, 7, .inl fun _ => 0),
  .inl (.int, 7, .inl fun _ => 0),
  .inl (.int, 7, .inl fun _ => 0),
  .inl (.int, 7, .inl fun _ => 0),
  .inl (.int, 7, .inl fun _ => 0),
  .inl (.int, 7, .inl fun _ => 0),
  .inl (.int, 7, .inl fun _ => 0),
  .inl (.int, 7, .inl fun _ => 0),
  .inl (.int, 7, .inl fun _ => 0),
  .inl (.int, 7, .inl fun _ => 0),
  .inl (.int, 7, .inl fun _ => 0),
  .inl (.int, 7, .inl fun _ => 0),
  .inl (.int, 7, .inl fun _ => 0),
  .inl (.int, 7, .inl fun _ => 0),
  .inl (.int, 7, .inl fun _ => 0),
  .inl (.int, 7, .inl fun _ => 0),
  .inl (.int, 7, .inl fun _ => 0),
  .inl (.int, 7, .inl fun _ => 0),
  .inl (.int, 7, .inl fun _ => 0),
  .inl (.int, 7, .inl fun _ => 0),
  .inl (.int, 7, .inl fun _ => 0),
  .inr (0, [.ref 43, .int 0]),
  .inl (.int, 24, .inl fun _ => 0),
  .inr (2, [.ref 45, .int 0, .int 0]),
  .inl (.object RX3, 8, .inr (.inr (.inr (.inr (va_up (va_up (va_up (va_up (va_up (va_up (va_up (fun _ => none) 0 (some 46)) 1 (some 53)) 2 (some 60)) 3 (some 67)) 4 (some 74)) 5 (some 81)) 6 (some 88)))))),
  .inr (3, [.int 0, .int 0, .ref 47, .int 0, .ref 48, .int 0, .ref 49, .ref 50, .ref 51, .ref 52, .int 0, .int 0, .int 0, .int 0, .int 0]),
  .inl (.int, 8, .inl fun _ => 0),
  .inl (.boolean, 20, .inl fun _ => 0),
  .inl (.int, 20, .inl fun _ => 0),
  .inl (.int, 20, .inl fun _ => 0),
  .inl (.int, 20, .inl fun _ => 0),
  .inl (.int, 20, .inl fun _ => 0),
  .inr (3, [.int 0, .int 0, .ref 54, .int 0, .ref 55, .int 0, .ref 56, .ref 57, .ref 58, .ref 59, .int 0, .int 0, .int 0, .int 0, .int 0]),
  .inl (.int, 8, .inl fun _ => 0),
  .inl (.boolean, 20, .inl fun _ => 0),
  .inl (.int, 20, .inl fun _ => 0),
  .inl (.int, 20, .inl fun _ => 0),
  .inl (.int, 20, .inl fun _ => 0),
  .inl (.int, 20, .inl fun _ => 0),
  .inr (3, [.int 0, .int 0, .ref 61, .int 0, .ref 62, .int 0, .ref 63, .ref 64, .ref 65, .ref 66, .int 0, .int 0, .int 0, .int 0, .int 0]),
  .inl (.int, 8, .inl fun _ => 0),
  .inl (.boolean, 20, .inl fun _ => 0),
  .inl (.int, 20, .inl fun _ => 0),
  .inl (.int, 20, .inl fun _ => 0),
  .inl (.int, 20, .inl fun _ => 0),
  .inl (.int, 20, .inl fun _ => 0),
  .inr (3, [.int 0, .int 0, .ref 68, .int 0, .ref 69, .int 0, .ref 70, .ref 71, .ref 72, .ref 73, .int 0, .int 0, .int 0, .int 0, .int 0]),
  .inl (.int, 8, .inl fun _ => 0),
  .inl (.boolean, 20, .inl fun _ => 0),
  .inl (.int, 20, .inl fun _ => 0),
  .inl (.int, 20, .inl fun _ => 0),
  .inl (.int, 20, .inl fun _ => 0),
  .inl (.int, 20, .inl fun _ => 0),
  .inr (3, [.int 0, .int 0, .ref 75, .int 0, .ref 76, .int 0, .ref 77, .ref 78, .ref 79, .ref 80, .int 0, .int 0, .int 0, .int 0, .int 0]),
  .inl (.int, 8, .inl fun _ => 0),
  .inl (.boolean, 20, .inl fun _ => 0),
  .inl (.int, 20, .inl fun _ => 0),
  .inl (.int, 20, .inl fun _ => 0),
  .inl (.int, 20, .inl fun _ => 0),
  .inl (.int, 20, .inl fun _ => 0),
  .inr (3, [.int 0, .int 0, .ref 82, .int 0, .ref 83, .int 0, .ref 84, .ref 85, .ref 86, .ref 87, .int 0, .int 0, .int 0, .int 0, .int 0]),
  .inl (.int, 8, .inl fun _ => 0),
  .inl (.boolean, 20, .inl fun _ => 0),
  .inl (.int, 20, .inl fun _ => 0),
  .inl (.int, 20, .inl fun _ => 0),
  .inl (.int, 20, .inl fun _ => 0),
  .inl (.int, 20, .inl fun _ => 0),
  .inr (3, [.int 0, .int 0, .ref 89, .int 0, .ref 90, .int 0, .ref 91, .ref 92, .ref 93, .ref 94, .int 0, .int 0, .int 0, .int 0, .int 0]),
  .inl (.int, 8, .inl fun _ => 0),
  .inl (.boolean, 20, .inl fun _ => 0),
  .inl (.int, 20, .inl fun _ => 0),
  .inl (.int, 20, .inl fun _ => 0),
  .inl (.int, 20, .inl fun _ => 0),
  .inl (.int, 20, .inl fun _ => 0),
  .inr (3, [.int 0, .int 0, .ref 96, .int 0, .ref 97, .int 0, .ref 98, .ref 99, .ref 100, .ref 101, .int 0, .int 0, .int 0, .int 0, .int 0]),
  .inl (.int, 8, .inl fun _ => 0),
  .inl (.boolean, 20, .inl fun _ => 0),
  .inl (.int, 20, .inl fun _ => 0),
  .inl (.int, 20, .inl fun _ => 0),
  .inl (.int, 20, .inl fun _ => 0),
  .inl (.int, 20, .inl fun _ => 0)]
def hx_26 : a_H := [.inr (8, [.ref 1, .int 0, .ref 2, .int 0, .ref 3, .ref 5, .ref 10, .ref 42, .null, .null, .null, .null, .null, .null, .null, .int 0]),
  .inl (.byte, 600, .inl fun _ => 0),
  .inl (.byte, 16, .inl fun _ => 0),
  .inr (7, [.ref 4, .int 0, .int 0, .int 0, .int 0, .int 0, .int (0 : Int32), .int (-1 : Int32)]),
  .inl (.byte, 0, .inl fun _ => 0),
  .inr (6, [.int 0, .ref 6, .ref 7, .ref 8, .int 0, .ref 9, .int 0]),
  .inl (.int, 8, .inl fun _ => 0),
  .inl (.byte, 48, .inl fun _ => 0),
  .inl (.int, 8, .inl fun _ => 0),
  .inl (.int, 3, .inl fun _ => 0),
  .inr (5, [.ref 11, .int 0]),
  .inl (.array .int, 30, .inr (.inr (.inr (.inr (fun i => if i < 30 then some (12 + i) else none))))),
  .inl (.int, 7, .inl fun _ => 0),
  .inl (.int, 7, .inl fun _ => 0),
  .inl (.int, 7, .inl fun _ => 0),
  .inl (.int, 7, .inl fun _ => 0),
  .inl (.int, 7, .inl fun _ => 0),
  .inl (.int, 7, .inl fun _ => 0),
  .inl (.int, 7, .inl fun _ => 0),
  .inl (.int, 7, .inl fun _ => 0),
  .inl (.int, 7, .inl fun _ => 0),
  .inl (.int, 7, .inl fun _ => 0),
  .inl (.int, 7, .inl fun _ => 0),
  .inl (.int, 7, .inl fun _ => 0),
  .inl (.int, 7, .inl fun _ => 0),
  .inl (.int, 7, .inl fun _ => 0),
  .inl (.int, 7, .inl fun _ => 0),
  .inl (.int, 7, .inl fun _ => 0),
  .inl (.int, 7, .inl fun _ => 0),
  .inl (.int, 7, .inl fun _ => 0),
  .inl (.int, 7, .inl fun _ => 0),
  .inl (.int, 7, .inl fun _ => 0),
  .inl (.int, 7, .inl fun _ => 0),
  .inl (.int, 7, .inl fun _ => 0),
  .inl (.int, 7, .inl fun _ => 0),
  .inl (.int, 7, .inl fun _ => 0),
  .inl (.int, 7, .inl fun _ => 0),
  .inl (.int, 7, .inl fun _ => 0),
  .inl (.int, 7, .inl fun _ => 0),
  .inl (.int, 7, .inl fun _ => 0),
  .inl (.int, 7, .inl fun _ => 0),
  .inl (.int, 7, .inl fun _ => 0),
  .inr (0, [.ref 43, .int 0]),
  .inl (.int, 24, .inl fun _ => 0),
  .inr (2, [.ref 45, .int 0, .int 0]),
  .inl (.object RX3, 8, .inr (.inr (.inr (.inr (va_up (va_up (va_up (va_up (va_up (va_up (va_up (va_up (fun _ => none) 0 (some 46)) 1 (some 53)) 2 (some 60)) 3 (some 67)) 4 (some 74)) 5 (some 81)) 6 (some 88)) 7 (some 95)))))),
  .inr (3, [.int 0, .int 0, .ref 47, .int 0, .ref 48, .int 0, .ref 49, .ref 50, .ref 51, .ref 52, .int 0, .int 0, .int 0, .int 0, .int 0]),
  .inl (.int, 8, .inl fun _ => 0),
  .inl (.boolean, 20, .inl fun _ => 0),
  .inl (.int, 20, .inl fun _ => 0),
  .inl (.int, 20, .inl fun _ => 0),
  .inl (.int, 20, .inl fun _ => 0),
  .inl (.int, 20, .inl fun _ => 0),
  .inr (3, [.int 0, .int 0, .ref 54, .int 0, .ref 55, .int 0, .ref 56, .ref 57, .ref 58, .ref 59, .int 0, .int 0, .int 0, .int 0, .int 0]),
  .inl (.int, 8, .inl fun _ => 0),
  .inl (.boolean, 20, .inl fun _ => 0),
  .inl (.int, 20, .inl fun _ => 0),
  .inl (.int, 20, .inl fun _ => 0),
  .inl (.int, 20, .inl fun _ => 0),
  .inl (.int, 20, .inl fun _ => 0),
  .inr (3, [.int 0, .int 0, .ref 61, .int 0, .ref 62, .int 0, .ref 63, .ref 64, .ref 65, .ref 66, .int 0, .int 0, .int 0, .int 0, .int 0]),
  .inl (.int, 8, .inl fun _ => 0),
  .inl (.boolean, 20, .inl fun _ => 0),
  .inl (.int, 20, .inl fun _ => 0),
  .inl (.int, 20, .inl fun _ => 0),
  .inl (.int, 20, .inl fun _ => 0),
  .inl (.int, 20, .inl fun _ => 0),
  .inr (3, [.int 0, .int 0, .ref 68, .int 0, .ref 69, .int 0, .ref 70, .ref 71, .ref 72, .ref 73, .int 0, .int 0, .int 0, .int 0, .int 0]),
  .inl (.int, 8, .inl fun _ => 0),
  .inl (.boolean, 20, .inl fun _ => 0),
  .inl (.int, 20, .inl fun _ => 0),
  .inl (.int, 20, .inl fun _ => 0),
  .inl (.int, 20, .inl fun _ => 0),
  .inl (.int, 20, .inl fun _ => 0),
  .inr (3, [.int 0, .int 0, .ref 75, .int 0, .ref 76, .int 0, .ref 77, .ref 78, .ref 79, .ref 80, .int 0, .int 0, .int 0, .int 0, .int 0]),
  .inl (.int, 8, .inl fun _ => 0),
  .inl (.boolean, 20, .inl fun _ => 0),
  .inl (.int, 20, .inl fun _ => 0),
  .inl (.int, 20, .inl fun _ => 0),
  .inl (.int, 20, .inl fun _ => 0),
  .inl (.int, 20, .inl fun _ => 0),
  .inr (3, [.int 0, .int 0, .ref 82, .int 0, .ref 83, .int 0, .ref 84, .ref 85, .ref 86, .ref 87, .int 0, .int 0, .int 0, .int 0, .int 0]),
  .inl (.int, 8, .inl fun _ => 0),
  .inl (.boolean, 20, .inl fun _ => 0),
  .inl (.int, 20, .inl fun _ => 0),
  .inl (.int, 20, .inl fun _ => 0),
  .inl (.int, 20, .inl fun _ => 0),
  .inl (.int, 20, .inl fun _ => 0),
  .inr (3, [.int 0, .int 0, .ref 89, .int 0, .ref 90, .int 0, .ref 91, .ref 92, .ref 93, .ref 94, .int 0, .int 0, .int 0, .int 0, .int 0]),
  .inl (.int, 8, .inl fun _ => 0),
  .inl (.boolean, 20, .inl fun _ => 0),
  .inl (.int, 20, .inl fun _ => 0),
  .inl (.int, 20, .inl fun _ => 0),
  .inl (.int, 20, .inl fun _ => 0),
  .inl (.int, 20, .inl fun _ => 0),
  .inr (3, [.int 0, .int 0, .ref 96, .int 0, .ref 97, .int 0, .ref 98, .ref 99, .ref 100, .ref 101, .int 0, .int 0, .int 0, .int 0, .int 0]),
  .inl (.int, 8, .inl fun _ => 0),
  .inl (.boolean, 20, .inl fun _ => 0),
  .inl (.int, 20, .inl fun _ => 0),
  .inl (.int, 20, .inl fun _ => 0),
  .inl (.int, 20, .inl fun _ => 0),
  .inl (.int, 20, .inl fun _ => 0)]
def hx_27 : a_H := [.inr (8, [.ref 1, .int 0, .ref 2, .int 0, .ref 3, .ref 5, .ref 10, .ref 42, .ref 44, .null, .null, .null, .null, .null, .null, .int 0]),
  .inl (.byte, 600, .inl fun _ => 0),
  .inl (.byte, 16, .inl fun _ => 0),
  .inr (7, [.ref 4, .int 0, .int 0, .int 0, .int 0, .int 0, .int (0 : Int32), .int (-1 : Int32)]),
  .inl (.byte, 0, .inl fun _ => 0),
  .inr (6, [.int 0, .ref 6, .ref 7, .ref 8, .int 0, .ref 9, .int 0]),
  .inl (.int, 8, .inl fun _ => 0),
  .inl (.byte, 48, .inl fun _ => 0),
  .inl (.int, 8, .inl fun _ => 0),
  .inl (.int, 3, .inl fun _ => 0),
  .inr (5, [.ref 11, .int 0]),
  .inl (.array .int, 30, .inr (.inr (.inr (.inr (fun i => if i < 30 then some (12 + i) else none))))),
  .inl (.int, 7, .inl fun _ => 0),
  .inl (.int, 7, .inl fun _ => 0),
  .inl (.int, 7, .inl fun _ => 0),
  .inl (.int, 7, .inl fun _ => 0),
  .inl (.int, 7, .inl fun _ => 0),
  .inl (.int, 7, .inl fun _ => 0),
  .inl (.int, 7, .inl fun _ => 0),
  .inl (.int, 7, .inl fun _ => 0),
  .inl (.int, 7, .inl fun _ => 0),
  .inl (.int, 7, .inl fun _ => 0),
  .inl (.int, 7, .inl fun _ => 0),
  .inl (.int, 7, .inl fun _ => 0),
  .inl (.int, 7, .inl fun _ => 0),
  .inl (.int, 7, .inl fun _ => 0),
  .inl (.int, 7, .inl fun _ => 0),
  .inl (.int, 7, .inl fun _ => 0),
  .inl (.int, 7, .inl fun _ => 0),
  .inl (.int, 7, .inl fun _ => 0),
  .inl (.int, 7, .inl fun _ => 0),
  .inl (.int, 7, .inl fun _ => 0),
  .inl (.int, 7, .inl fun _ => 0),
  .inl (.int, 7, .inl fun _ => 0),
  .inl (.int, 7, .inl fun _ => 0),
  .inl (.int, 7, .inl fun _ => 0),
  .inl (.int, 7, .inl fun _ => 0),
  .inl (.int, 7, .inl fun _ => 0),
  .inl (.int, 7, .inl fun _ => 0),
  .inl (.int, 7, .inl fun _ => 0),
  .inl (.int, 7, .inl fun _ => 0),
  .inl (.int, 7, .inl fun _ => 0),
  .inr (0, [.ref 43, .int 0]),
  .inl (.int, 24, .inl fun _ => 0),
  .inr (2, [.ref 45, .int 0, .int 0]),
  .inl (.object RX3, 8, .inr (.inr (.inr (.inr (va_up (va_up (va_up (va_up (va_up (va_up (va_up (va_up (fun _ => none) 0 (some 46)) 1 (some 53)) 2 (some 60)) 3 (some 67)) 4 (some 74)) 5 (some 81)) 6 (some 88)) 7 (some 95)))))),
  .inr (3, [.int 0, .int 0, .ref 47, .int 0, .ref 48, .int 0, .ref 49, .ref 50, .ref 51, .ref 52, .int 0, .int 0, .int 0, .int 0, .int 0]),
  .inl (.int, 8, .inl fun _ => 0),
  .inl (.boolean, 20, .inl fun _ => 0),
  .inl (.int, 20, .inl fun _ => 0),
  .inl (.int, 20, .inl fun _ => 0),
  .inl (.int, 20, .inl fun _ => 0),
  .inl (.int, 20, .inl fun _ => 0),
  .inr (3, [.int 0, .int 0, .ref 54, .int 0, .ref 55, .int 0, .ref 56, .ref 57, .ref 58, .ref 59, .int 0, .int 0, .int 0, .int 0, .int 0]),
  .inl (.int, 8, .inl fun _ => 0),
  .inl (.boolean, 20, .inl fun _ => 0),
  .inl (.int, 20, .inl fun _ => 0),
  .inl (.int, 20, .inl fun _ => 0),
  .inl (.int, 20, .inl fun _ => 0),
  .inl (.int, 20, .inl fun _ => 0),
  .inr (3, [.int 0, .int 0, .ref 61, .int 0, .ref 62, .int 0, .ref 63, .ref 64, .ref 65, .ref 66, .int 0, .int 0, .int 0, .int 0, .int 0]),
  .inl (.int, 8, .inl fun _ => 0),
  .inl (.boolean, 20, .inl fun _ => 0),
  .inl (.int, 20, .inl fun _ => 0),
  .inl (.int, 20, .inl fun _ => 0),
  .inl (.int, 20, .inl fun _ => 0),
  .inl (.int, 20, .inl fun _ => 0),
  .inr (3, [.int 0, .int 0, .ref 68, .int 0, .ref 69, .int 0, .ref 70, .ref 71, .ref 72, .ref 73, .int 0, .int 0, .int 0, .int 0, .int 0]),
  .inl (.int, 8, .inl fun _ => 0),
  .inl (.boolean, 20, .inl fun _ => 0),
  .inl (.int, 20, .inl fun _ => 0),
  .inl (.int, 20, .inl fun _ => 0),
  .inl (.int, 20, .inl fun _ => 0),
  .inl (.int, 20, .inl fun _ => 0),
  .inr (3, [.int 0, .int 0, .ref 75, .int 0, .ref 76, .int 0, .ref 77, .ref 78, .ref 79, .ref 80, .int 0, .int 0, .int 0, .int 0, .int 0]),
  .inl (.int, 8, .inl fun _ => 0),
  .inl (.boolean, 20, .inl fun _ => 0),
  .inl (.int, 20, .inl fun _ => 0),
  .inl (.int, 20, .inl fun _ => 0),
  .inl (.int, 20, .inl fun _ => 0),
  .inl (.int, 20, .inl fun _ => 0),
  .inr (3, [.int 0, .int 0, .ref 82, .int 0, .ref 83, .int 0, .ref 84, .ref 85, .ref 86, .ref 87, .int 0, .int 0, .int 0, .int 0, .int 0]),
  .inl (.int, 8, .inl fun _ => 0),
  .inl (.boolean, 20, .inl fun _ => 0),
  .inl (.int, 20, .inl fun _ => 0),
  .inl (.int, 20, .inl fun _ => 0),
  .inl (.int, 20, .inl fun _ => 0),
  .inl (.int, 20, .inl fun _ => 0),
  .inr (3, [.int 0, .int 0, .ref 89, .int 0, .ref 90, .int 0, .ref 91, .ref 92, .ref 93, .ref 94, .int 0, .int 0, .int 0, .int 0, .int 0]),
  .inl (.int, 8, .inl fun _ => 0),
  .inl (.boolean, 20, .inl fun _ => 0),
  .inl (.int, 20, .inl fun _ => 0),
  .inl (.int, 20, .inl fun _ => 0),
  .inl (.int, 20, .inl fun _ => 0),
  .inl (.int, 20, .inl fun _ => 0),
  .inr (3, [.int 0, .int 0, .ref 96, .int 0, .ref 97, .int 0, .ref 98, .ref 99, .ref 100, .ref 101, .int 0, .int 0, .int 0, .int 0, .int 0]),
  .inl (.int, 8, .inl fun _ => 0),
  .inl (.boolean, 20, .inl fun _ => 0),
  .inl (.int, 20, .inl fun _ => 0),
  .inl (.int, 20, .inl fun _ => 0),
  .inl (.int, 20, .inl fun _ => 0),
  .inl (.int, 20, .inl fun _ => 0),
  .inr (4, [.null, .null, .null, .null])]
def hx_28 : a_H := [.inr (8, [.ref 1, .int 0, .ref 2, .int 0, .ref 3, .ref 5, .ref 10, .ref 42, .ref 44, .null, .null, .null, .null, .null, .null, .int 0]),
  .inl (.byte, 600, .inl fun _ => 0),
  .inl (.byte, 16, .inl fun _ => 0),
  .inr (7, [.ref 4, .int 0, .int 0, .int 0, .int 0, .int 0, .int (0 : Int32), .int (-1 : Int32)]),
  .inl (.byte, 0, .inl fun _ => 0),
  .inr (6, [.int 0, .ref 6, .ref 7, .ref 8, .int 0, .ref 9, .int 0]),
  .inl (.int, 8, .inl fun _ => 0),
  .inl (.byte, 48, .inl fun _ => 0),
  .inl (.int, 8, .inl fun _ => 0),
  .inl (.int, 3, .inl fun _ => 0),
  .inr (5, [.ref 11, .int 0]),
  .inl (.array .int, 30, .inr (.inr (.inr (.inr (fun i => if i < 30 then some (12 + i) else none))))),
  .inl (.int, 7, .inl fun _ => 0),
  .inl (.int, 7, .inl fun _ => 0),
  .inl (.int, 7, .inl fun _ => 0),
  .inl (.int, 7, .inl fun _ => 0),
  .inl (.int, 7, .inl fun _ => 0),
  .inl (.int, 7, .inl fun _ => 0),
  .inl (.int, 7, .inl fun _ => 0),
  .inl (.int, 7, .inl fun _ => 0),
  .inl (.int, 7, .inl fun _ => 0),
  .inl (.int, 7, .inl fun _ => 0),
  .inl (.int, 7, .inl fun _ => 0),
  .inl (.int, 7, .inl fun _ => 0),
  .inl (.int, 7, .inl fun _ => 0),
  .inl (.int, 7, .inl fun _ => 0),
  .inl (.int, 7, .inl fun _ => 0),
  .inl (.int, 7, .inl fun _ => 0),
  .inl (.int, 7, .inl fun _ => 0),
  .inl (.int, 7, .inl fun _ => 0),
  .inl (.int, 7, .inl fun _ => 0),
  .inl (.int, 7, .inl fun _ => 0),
  .inl (.int, 7, .inl fun _ => 0),
  .inl (.int, 7, .inl fun _ => 0),
  .inl (.int, 7, .inl fun _ => 0),
  .inl (.int, 7, .inl fun _ => 0),
  .inl (.int, 7, .inl fun _ => 0),
  .inl (.int, 7, .inl fun _ => 0),
  .inl (.int, 7, .inl fun _ => 0),
  .inl (.int, 7, .inl fun _ => 0),
  .inl (.int, 7, .inl fun _ => 0),
  .inl (.int, 7, .inl fun _ => 0),
  .inr (0, [.ref 43, .int 0]),
  .inl (.int, 24, .inl fun _ => 0),
  .inr (2, [.ref 45, .int 0, .int 0]),
  .inl (.object RX3, 8, .inr (.inr (.inr (.inr (va_up (va_up (va_up (va_up (va_up (va_up (va_up (va_up (fun _ => none) 0 (some 46)) 1 (some 53)) 2 (some 60)) 3 (some 67)) 4 (some 74)) 5 (some 81)) 6 (some 88)) 7 (some 95)))))),
  .inr (3, [.int 0, .int 0, .ref 47, .int 0, .ref 48, .int 0, .ref 49, .ref 50, .ref 51, .ref 52, .int 0, .int 0, .int 0, .int 0, .int 0]),
  .inl (.int, 8, .inl fun _ => 0),
  .inl (.boolean, 20, .inl fun _ => 0),
  .inl (.int, 20, .inl fun _ => 0),
  .inl (.int, 20, .inl fun _ => 0),
  .inl (.int, 20, .inl fun _ => 0),
  .inl (.int, 20, .inl fun _ => 0),
  .inr (3, [.int 0, .int 0, .ref 54, .int 0, .ref 55, .int 0, .ref 56, .ref 57, .ref 58, .ref 59, .int 0, .int 0, .int 0, .int 0, .int 0]),
  .inl (.int, 8, .inl fun _ => 0),
  .inl (.boolean, 20, .inl fun _ => 0),
  .inl (.int, 20, .inl fun _ => 0),
  .inl (.int, 20, .inl fun _ => 0),
  .inl (.int, 20, .inl fun _ => 0),
  .inl (.int, 20, .inl fun _ => 0),
  .inr (3, [.int 0, .int 0, .ref 61, .int 0, .ref 62, .int 0, .ref 63, .ref 64, .ref 65, .ref 66, .int 0, .int 0, .int 0, .int 0, .int 0]),
  .inl (.int, 8, .inl fun _ => 0),
  .inl (.boolean, 20, .inl fun _ => 0),
  .inl (.int, 20, .inl fun _ => 0),
  .inl (.int, 20, .inl fun _ => 0),
  .inl (.int, 20, .inl fun _ => 0),
  .inl (.int, 20, .inl fun _ => 0),
  .inr (3, [.int 0, .int 0, .ref 68, .int 0, .ref 69, .int 0, .ref 70, .ref 71, .ref 72, .ref 73, .int 0, .int 0, .int 0, .int 0, .int 0]),
  .inl (.int, 8, .inl fun _ => 0),
  .inl (.boolean, 20, .inl fun _ => 0),
  .inl (.int, 20, .inl fun _ => 0),
  .inl (.int, 20, .inl fun _ => 0),
  .inl (.int, 20, .inl fun _ => 0),
  .inl (.int, 20, .inl fun _ => 0),
  .inr (3, [.int 0, .int 0, .ref 75, .int 0, .ref 76, .int 0, .ref 77, .ref 78, .ref 79, .ref 80, .int 0, .int 0, .int 0, .int 0, .int 0]),
  .inl (.int, 8, .inl fun _ => 0),
  .inl (.boolean, 20, .inl fun _ => 0),
  .inl (.int, 20, .inl fun _ => 0),
  .inl (.int, 20, .inl fun _ => 0),
  .inl (.int, 20, .inl fun _ => 0),
  .inl (.int, 20, .inl fun _ => 0),
  .inr (3, [.int 0, .int 0, .ref 82, .int 0, .ref 83, .int 0, .ref 84, .ref 85, .ref 86, .ref 87, .int 0, .int 0, .int 0, .int 0, .int 0]),
  .inl (.int, 8, .inl fun _ => 0),
  .inl (.boolean, 20, .inl fun _ => 0),
  .inl (.int, 20, .inl fun _ => 0),
  .inl (.int, 20, .inl fun _ => 0),
  .inl (.int, 20, .inl fun _ => 0),
  .inl (.int, 20, .inl fun _ => 0),
  .inr (3, [.int 0, .int 0, .ref 89, .int 0, .ref 90, .int 0, .ref 91, .ref 92, .ref 93, .ref 94, .int 0, .int 0, .int 0, .int 0, .int 0]),
  .inl (.int, 8, .inl fun _ => 0),
  .inl (.boolean, 20, .inl fun _ => 0),
  .inl (.int, 20, .inl fun _ => 0),
  .inl (.int, 20, .inl fun _ => 0),
  .inl (.int, 20, .inl fun _ => 0),
  .inl (.int, 20, .inl fun _ => 0),
  .inr (3, [.int 0, .int 0, .ref 96, .int 0, .ref 97, .int 0, .ref 98, .ref 99, .ref 100, .ref 101, .int 0, .int 0, .int 0, .int 0, .int 0]),
  .inl (.int, 8, .inl fun _ => 0),
  .inl (.boolean, 20, .inl fun _ => 0),
  .inl (.int, 20, .inl fun _ => 0),
  .inl (.int, 20, .inl fun _ => 0),
  .inl (.int, 20, .inl fun _ => 0),
  .inl (.int, 20, .inl fun _ => 0),
  .inr (4, [.null, .null, .null, .null]),
  .inr (6, [.int 0, .null, .null, .null, .int 0, .null, .int 0])]
def hx_29 : a_H := [.inr (8, [.ref 1, .int 0, .ref 2, .int 0, .ref 3, .ref 5, .ref 10, .ref 42, .ref 44, .null, .null, .null, .null, .null, .null, .int 0]),
  .inl (.byte, 600, .inl fun _ => 0),
  .inl (.byte, 16, .inl fun _ => 0),
  .inr (7, [.ref 4, .int 0, .int 0, .int 0, .int 0, .int 0, .int (0 : Int32), .int (-1 : Int32)]),
  .inl (.byte, 0, .inl fun _ => 0),
  .inr (6, [.int 0, .ref 6, .ref 7, .ref 8, .int 0, .ref 9, .int 0]),
  .inl (.int, 8, .inl fun _ => 0),
  .inl (.byte, 48, .inl fun _ => 0),
  .inl (.int, 8, .inl fun _ => 0),
  .inl (.int, 3, .inl fun _ => 0),
  .inr (5, [.ref 11, .int 0]),
  .inl (.array .int, 30, .inr (.inr (.inr (.inr (fun i => if i < 30 then some (12 + i) else none))))),
  .inl (.int, 7, .inl fun _ => 0),
  .inl (.int, 7, .inl fun _ => 0),
  .inl (.int, 7, .inl fun _ => 0),
  .inl (.int, 7, .inl fun _ => 0),
  .inl (.int, 7, .inl fun _ => 0),
  .inl (.int, 7, .inl fun _ => 0),
  .inl (.int, 7, .inl fun _ => 0),
  .inl (.int, 7, .inl fun _ => 0),
  .inl (.int, 7, .inl fun _ => 0),
  .inl (.int, 7, .inl fun _ => 0),
  .inl (.int, 7, .inl fun _ => 0),
  .inl (.int, 7, .inl fun _ => 0),
  .inl (.int, 7, .inl fun _ => 0),
  .inl (.int, 7, .inl fun _ => 0),
  .inl (.int, 7, .inl fun _ => 0),
  .inl (.int, 7, .inl fun _ => 0),
  .inl (.int, 7, .inl fun _ => 0),
  .inl (.int, 7, .inl fun _ => 0),
  .inl (.int, 7, .inl fun _ => 0),
  .inl (.int, 7, .inl fun _ => 0),
  .inl (.int, 7, .inl fun _ => 0),
  .inl (.int, 7, .inl fun _ => 0),
  .inl (.int, 7, .inl fun _ => 0),
  .inl (.int, 7, .inl fun _ => 0),
  .inl (.int, 7, .inl fun _ => 0),
  .inl (.int, 7, .inl fun _ => 0),
  .inl (.int, 7, .inl fun _ => 0),
  .inl (.int, 7, .inl fun _ => 0),
  .inl (.int, 7, .inl fun _ => 0),
  .inl (.int, 7, .inl fun _ => 0),
  .inr (0, [.ref 43, .int 0]),
  .inl (.int, 24, .inl fun _ => 0),
  .inr (2, [.ref 45, .int 0, .int 0]),
  .inl (.object RX3, 8, .inr (.inr (.inr (.inr (va_up (va_up (va_up (va_up (va_up (va_up (va_up (va_up (fun _ => none) 0 (some 46)) 1 (some 53)) 2 (some 60)) 3 (some 67)) 4 (some 74)) 5 (some 81)) 6 (some 88)) 7 (some 95)))))),
  .inr (3, [.int 0, .int 0, .ref 47, .int 0, .ref 48, .int 0, .ref 49, .ref 50, .ref 51, .ref 52, .int 0, .int 0, .int 0, .int 0, .int 0]),
  .inl (.int, 8, .inl fun _ => 0),
  .inl (.boolean, 20, .inl fun _ => 0),
  .inl (.int, 20, .inl fun _ => 0),
  .inl (.int, 20, .inl fun _ => 0),
  .inl (.int, 20, .inl fun _ => 0),
  .inl (.int, 20, .inl fun _ => 0),
  .inr (3, [.int 0, .int 0, .ref 54, .int 0, .ref 55, .int 0, .ref 56, .ref 57, .ref 58, .ref 59, .int 0, .int 0, .int 0, .int 0, .int 0]),
  .inl (.int, 8, .inl fun _ => 0),
  .inl (.boolean, 20, .inl fun _ => 0),
  .inl (.int, 20, .inl fun _ => 0),
  .inl (.int, 20, .inl fun _ => 0),
  .inl (.int, 20, .inl fun _ => 0),
  .inl (.int, 20, .inl fun _ => 0),
  .inr (3, [.int 0, .int 0, .ref 61, .int 0, .ref 62, .int 0, .ref 63, .ref 64, .ref 65, .ref 66, .int 0, .int 0, .int 0, .int 0, .int 0]),
  .inl (.int, 8, .inl fun _ => 0),
  .inl (.boolean, 20, .inl fun _ => 0),
  .inl (.int, 20, .inl fun _ => 0),
  .inl (.int, 20, .inl fun _ => 0),
  .inl (.int, 20, .inl fun _ => 0),
  .inl (.int, 20, .inl fun _ => 0),
  .inr (3, [.int 0, .int 0, .ref 68, .int 0, .ref 69, .int 0, .ref 70, .ref 71, .ref 72, .ref 73, .int 0, .int 0, .int 0, .int 0, .int 0]),
  .inl (.int, 8, .inl fun _ => 0),
  .inl (.boolean, 20, .inl fun _ => 0),
  .inl (.int, 20, .inl fun _ => 0),
  .inl (.int, 20, .inl fun _ => 0),
  .inl (.int, 20, .inl fun _ => 0),
  .inl (.int, 20, .inl fun _ => 0),
  .inr (3, [.int 0, .int 0, .ref 75, .int 0, .ref 76, .int 0, .ref 77, .ref 78, .ref 79, .ref 80, .int 0, .int 0, .int 0, .int 0, .int 0]),
  .inl (.int, 8, .inl fun _ => 0),
  .inl (.boolean, 20, .inl fun _ => 0),
  .inl (.int, 20, .inl fun _ => 0),
  .inl (.int, 20, .inl fun _ => 0),
  .inl (.int, 20, .inl fun _ => 0),
  .inl (.int, 20, .inl fun _ => 0),
  .inr (3, [.int 0, .int 0, .ref 82, .int 0, .ref 83, .int 0, .ref 84, .ref 85, .ref 86, .ref 87, .int 0, .int 0, .int 0, .int 0, .int 0]),
  .inl (.int, 8, .inl fun _ => 0),
  .inl (.boolean, 20, .inl fun _ => 0),
  .inl (.int, 20, .inl fun _ => 0),
  .inl (.int, 20, .inl fun _ => 0),
  .inl (.int, 20, .inl fun _ => 0),
  .inl (.int, 20, .inl fun _ => 0),
  .inr (3, [.int 0, .int 0, .ref 89, .int 0, .ref 90, .int 0, .ref 91, .ref 92, .ref 93, .ref 94, .int 0, .int 0, .int 0, .int 0, .int 0]),
  .inl (.int, 8, .inl fun _ => 0),
  .inl (.boolean, 20, .inl fun _ => 0),
  .inl (.int, 20, .inl fun _ => 0),
  .inl (.int, 20, .inl fun _ => 0),
  .inl (.int, 20, .inl fun _ => 0),
  .inl (.int, 20, .inl fun _ => 0),
  .inr (3, [.int 0, .int 0, .ref 96, .int 0, .ref 97, .int 0, .ref 98, .ref 99, .ref 100, .ref 101, .int 0, .int 0, .int 0, .int 0, .int 0]),
  .inl (.int, 8, .inl fun _ => 0),
  .inl (.boolean, 20, .inl fun _ => 0),
  .inl (.int, 20, .inl fun _ => 0),
  .inl (.int, 20, .inl fun _ => 0),
  .inl (.int, 20, .inl fun _ => 0),
  .inl (.int, 20, .inl fun _ => 0),
  .inr (4, [.null, .null, .null, .null]),
  .inr (6, [.int 0, .ref 104, .ref 105, .ref 106, .int 0, .ref 107, .int 0]),
  .inl (.int, 8, .inl fun _ => 0),
  .inl (.byte, 48, .inl fun _ => 0),
  .inl (.int, 8, .inl fun _ => 0),
  .inl (.int, 3, .inl fun _ => 0)]
def hx_30 : a_H := [.inr (8, [.ref 1, .int 0, .ref 2, .int 0, .ref 3, .ref 5, .ref 10, .ref 42, .ref 44, .null, .null, .null, .null, .null, .null, .int 0]),
  .inl (.byte, 600, .inl fun _ => 0),
  .inl (.byte, 16, .inl fun _ => 0),
  .inr (7, [.ref 4, .int 0, .int 0, .int 0, .int 0, .int 0, .int (0 : Int32), .int (-1 : Int32)]),
  .inl (.byte, 0, .inl fun _ => 0),
  .inr (6, [.int 0, .ref 6, .ref 7, .ref 8, .int 0, .ref 9, .int 0]),
  .inl (.int, 8, .inl fun _ => 0),
  .inl (.byte, 48, .inl fun _ => 0),
  .inl (.int, 8, .inl fun _ => 0),
  .inl (.int, 3, .inl fun _ => 0),
  .inr (5, [.ref 11, .int 0]),
  .inl (.array .int, 30, .inr (.inr (.inr (.inr (fun i => if i < 30 then some (12 + i) else none))))),
  .inl (.int, 7, .inl fun _ => 0),
  .inl (.int, 7, .inl fun _ => 0),
  .inl (.int, 7, .inl fun _ => 0),
  .inl (.int, 7, .inl fun _ => 0),
  .inl (.int, 7, .inl fun _ => 0),
  .inl (.int, 7, .inl fun _ => 0),
  .inl (.int, 7, .inl fun _ => 0),
  .inl (.int, 7, .inl fun _ => 0),
  .inl (.int, 7, .inl fun _ => 0),
  .inl (.int, 7, .inl fun _ => 0),
  .inl (.int, 7, .inl fun _ => 0),
  .inl (.int, 7, .inl fun _ => 0),
  .inl (.int, 7, .inl fun _ => 0),
  .inl (.int, 7, .inl fun _ => 0),
  .inl (.int, 7, .inl fun _ => 0),
  .inl (.int, 7, .inl fun _ => 0),
  .inl (.int, 7, .inl fun _ => 0),
  .inl (.int, 7, .inl fun _ => 0),
  .inl (.int, 7, .inl fun _ => 0),
  .inl (.int, 7, .inl fun _ => 0),
  .inl (.int, 7, .inl fun _ => 0),
  .inl (.int, 7, .inl fun _ => 0),
  .inl (.int, 7, .inl fun _ => 0),
  .inl (.int, 7, .inl fun _ => 0),
  .inl (.int, 7, .inl fun _ => 0),
  .inl (.int, 7, .inl fun _ => 0),
  .inl (.int, 7, .inl fun _ => 0),
  .inl (.int, 7, .inl fun _ => 0),
  .inl (.int, 7, .inl fun _ => 0),
  .inl (.int, 7, .inl fun _ => 0),
  .inr (0, [.ref 43, .int 0]),
  .inl (.int, 24, .inl fun _ => 0),
  .inr (2, [.ref 45, .int 0, .int 0]),
  .inl (.object RX3, 8, .inr (.inr (.inr (.inr (va_up (va_up (va_up (va_up (va_up (va_up (va_up (va_up (fun _ => none) 0 (some 46)) 1 (some 53)) 2 (some 60)) 3 (some 67)) 4 (some 74)) 5 (some 81)) 6 (some 88)) 7 (some 95)))))),
  .inr (3, [.int 0, .int 0, .ref 47, .int 0, .ref 48, .int 0, .ref 49, .ref 50, .ref 51, .ref 52, .int 0, .int 0, .int 0, .int 0, .int 0]),
  .inl (.int, 8, .inl fun _ => 0),
  .inl (.boolean, 20, .inl fun _ => 0),
  .inl (.int, 20, .inl fun _ => 0),
  .inl (.int, 20, .inl fun _ => 0),
  .inl (.int, 20, .inl fun _ => 0),
  .inl (.int, 20, .inl fun _ => 0),
  .inr (3, [.int 0, .int 0, .ref 54, .int 0, .ref 55, .int 0, .ref 56, .ref 57, .ref 58, .ref 59, .int 0, .int 0, .int 0, .int 0, .int 0]),
  .inl (.int, 8, .inl fun _ => 0),
  .inl (.boolean, 20, .inl fun _ => 0),
  .inl (.int, 20, .inl fun _ => 0),
  .inl (.int, 20, .inl fun _ => 0),
  .inl (.int, 20, .inl fun _ => 0),
  .inl (.int, 20, .inl fun _ => 0),
  .inr (3, [.int 0, .int 0, .ref 61, .int 0, .ref 62, .int 0, .ref 63, .ref 64, .ref 65, .ref 66, .int 0, .int 0, .int 0, .int 0, .int 0]),
  .inl (.int, 8, .inl fun _ => 0),
  .inl (.boolean, 20, .inl fun _ => 0),
  .inl (.int, 20, .inl fun _ => 0),
  .inl (.int, 20, .inl fun _ => 0),
  .inl (.int, 20, .inl fun _ => 0),
  .inl (.int, 20, .inl fun _ => 0),
  .inr (3, [.int 0, .int 0, .ref 68, .int 0, .ref 69, .int 0, .ref 70, .ref 71, .ref 72, .ref 73, .int 0, .int 0, .int 0, .int 0, .int 0]),
  .inl (.int, 8, .inl fun _ => 0),
  .inl (.boolean, 20, .inl fun _ => 0),
  .inl (.int, 20, .inl fun _ => 0),
  .inl (.int, 20, .inl fun _ => 0),
  .inl (.int, 20, .inl fun _ => 0),
  .inl (.int, 20, .inl fun _ => 0),
  .inr (3, [.int 0, .int 0, .ref 75, .int 0, .ref 76, .int 0, .ref 77, .ref 78, .ref 79, .ref 80, .int 0, .int 0, .int 0, .int 0, .int 0]),
  .inl (.int, 8, .inl fun _ => 0),
  .inl (.boolean, 20, .inl fun _ => 0),
  .inl (.int, 20, .inl fun _ => 0),
  .inl (.int, 20, .inl fun _ => 0),
  .inl (.int, 20, .inl fun _ => 0),
  .inl (.int, 20, .inl fun _ => 0),
  .inr (3, [.int 0, .int 0, .ref 82, .int 0, .ref 83, .int 0, .ref 84, .ref 85, .ref 86, .ref 87, .int 0, .int 0, .int 0, .int 0, .int 0]),
  .inl (.int, 8, .inl fun _ => 0),
  .inl (.boolean, 20, .inl fun _ => 0),
  .inl (.int, 20, .inl fun _ => 0),
  .inl (.int, 20, .inl fun _ => 0),
  .inl (.int, 20, .inl fun _ => 0),
  .inl (.int, 20, .inl fun _ => 0),
  .inr (3, [.int 0, .int 0, .ref 89, .int 0, .ref 90, .int 0, .ref 91, .ref 92, .ref 93, .ref 94, .int 0, .int 0, .int 0, .int 0, .int 0]),
  .inl (.int, 8, .inl fun _ => 0),
  .inl (.boolean, 20, .inl fun _ => 0),
  .inl (.int, 20, .inl fun _ => 0),
  .inl (.int, 20, .inl fun _ => 0),
  .inl (.int, 20, .inl fun _ => 0),
  .inl (.int, 20, .inl fun _ => 0),
  .inr (3, [.int 0, .int 0, .ref 96, .int 0, .ref 97, .int 0, .ref 98, .ref 99, .ref 100, .ref 101, .int 0, .int 0, .int 0, .int 0, .int 0]),
  .inl (.int, 8, .inl fun _ => 0),
  .inl (.boolean, 20, .inl fun _ => 0),
  .inl (.int, 20, .inl fun _ => 0),
  .inl (.int, 20, .inl fun _ => 0),
  .inl (.int, 20, .inl fun _ => 0),
  .inl (.int, 20, .inl fun _ => 0),
  .inr (4, [.ref 103, .null, .null, .null]),
  .inr (6, [.int 0, .ref 104, .ref 105, .ref 106, .int 0, .ref 107, .int 0]),
  .inl (.int, 8, .inl fun _ => 0),
  .inl (.byte, 48, .inl fun _ => 0),
  .inl (.int, 8, .inl fun _ => 0),
  .inl (.int, 3, .inl fun _ => 0),
  .inr (1, [.null, .null, .null, .null, .null, .null, .null, .null, .null, .null, .null, .null])]
def hx_31 : a_H := [.inr (8, [.ref 1, .int 0, .ref 2, .int 0, .ref 3, .ref 5, .ref 10, .ref 42, .ref 44, .null, .null, .null, .null, .null, .null, .int 0]),
  .inl (.byte, 600, .inl fun _ => 0),
  .inl (.byte, 16, .inl fun _ => 0),
  .inr (7, [.ref 4, .int 0, .int 0, .int 0, .int 0, .int 0, .int (0 : Int32), .int (-1 : Int32)]),
  .inl (.byte, 0, .inl fun _ => 0),
  .inr (6, [.int 0, .ref 6, .ref 7, .ref 8, .int 0, .ref 9, .int 0]),
  .inl (.int, 8, .inl fun _ => 0),
  .inl (.byte, 48, .inl fun _ => 0),
  .inl (.int, 8, .inl fun _ => 0),
  .inl (.int, 3, .inl fun _ => 0),
  .inr (5, [.ref 11, .int 0]),
  .inl (.array .int, 30, .inr (.inr (.inr (.inr (fun i => if i < 30 then some (12 + i) else none))))),
  .inl (.int, 7, .inl fun _ => 0),
  .inl (.int, 7, .inl fun _ => 0),
  .inl (.int, 7, .inl fun _ => 0),
  .inl (.int, 7, .inl fun _ => 0),
  .inl (.int, 7, .inl fun _ => 0),
  .inl (.int, 7, .inl fun _ => 0),
  .inl (.int, 7, .inl fun _ => 0),
  .inl (.int, 7, .inl fun _ => 0),
  .inl (.int, 7, .inl fun _ => 0),
  .inl (.int, 7, .inl fun _ => 0),
  .inl (.int, 7, .inl fun _ => 0),
  .inl (.int, 7, .inl fun _ => 0),
  .inl (.int, 7, .inl fun _ => 0),
  .inl (.int, 7, .inl fun _ => 0),
  .inl (.int, 7, .inl fun _ => 0),
  .inl (.int, 7, .inl fun _ => 0),
  .inl (.int, 7, .inl fun _ => 0),
  .inl (.int, 7, .inl fun _ => 0),
  .inl (.int, 7, .inl fun _ => 0),
  .inl (.int, 7, .inl fun _ => 0),
  .inl (.int, 7, .inl fun _ => 0),
  .inl (.int, 7, .inl fun _ => 0),
  .inl (.int, 7, .inl fun _ => 0),
  .inl (.int, 7, .inl fun _ => 0),
  .inl (.int, 7, .inl fun _ => 0),
  .inl (.int, 7, .inl fun _ => 0),
  .inl (.int, 7, .inl fun _ => 0),
  .inl (.int, 7, .inl fun _ => 0),
  .inl (.int, 7, .inl fun _ => 0),
  .inl (.int, 7, .inl fun _ => 0),
  .inr (0, [.ref 43, .int 0]),
  .inl (.int, 24, .inl fun _ => 0),
  .inr (2, [.ref 45, .int 0, .int 0]),
  .inl (.object RX3, 8, .inr (.inr (.inr (.inr (va_up (va_up (va_up (va_up (va_up (va_up (va_up (va_up (fun _ => none) 0 (some 46)) 1 (some 53)) 2 (some 60)) 3 (some 67)) 4 (some 74)) 5 (some 81)) 6 (some 88)) 7 (some 95)))))),
  .inr (3, [.int 0, .int 0, .ref 47, .int 0, .ref 48, .int 0, .ref 49, .ref 50, .ref 51, .ref 52, .int 0, .int 0, .int 0, .int 0, .int 0]),
  .inl (.int, 8, .inl fun _ => 0),
  .inl (.boolean, 20, .inl fun _ => 0),
  .inl (.int, 20, .inl fun _ => 0),
  .inl (.int, 20, .inl fun _ => 0),
  .inl (.int, 20, .inl fun _ => 0),
  .inl (.int, 20, .inl fun _ => 0),
  .inr (3, [.int 0, .int 0, .ref 54, .int 0, .ref 55, .int 0, .ref 56, .ref 57, .ref 58, .ref 59, .int 0, .int 0, .int 0, .int 0, .int 0]),
  .inl (.int, 8, .inl fun _ => 0),
  .inl (.boolean, 20, .inl fun _ => 0),
  .inl (.int, 20, .inl fun _ => 0),
  .inl (.int, 20, .inl fun _ => 0),
  .inl (.int, 20, .inl fun _ => 0),
  .inl (.int, 20, .inl fun _ => 0),
  .inr (3, [.int 0, .int 0, .ref 61, .int 0, .ref 62, .int 0, .ref 63, .ref 64, .ref 65, .ref 66, .int 0, .int 0, .int 0, .int 0, .int 0]),
  .inl (.int, 8, .inl fun _ => 0),
  .inl (.boolean, 20, .inl fun _ => 0),
  .inl (.int, 20, .inl fun _ => 0),
  .inl (.int, 20, .inl fun _ => 0),
  .inl (.int, 20, .inl fun _ => 0),
  .inl (.int, 20, .inl fun _ => 0),
  .inr (3, [.int 0, .int 0, .ref 68, .int 0, .ref 69, .int 0, .ref 70, .ref 71, .ref 72, .ref 73, .int 0, .int 0, .int 0, .int 0, .int 0]),
  .inl (.int, 8, .inl fun _ => 0),
  .inl (.boolean, 20, .inl fun _ => 0),
  .inl (.int, 20, .inl fun _ => 0),
  .inl (.int, 20, .inl fun _ => 0),
  .inl (.int, 20, .inl fun _ => 0),
  .inl (.int, 20, .inl fun _ => 0),
  .inr (3, [.int 0, .int 0, .ref 75, .int 0, .ref 76, .int 0, .ref 77, .ref 78, .ref 79, .ref 80, .int 0, .int 0, .int 0, .int 0, .int 0]),
  .inl (.int, 8, .inl fun _ => 0),
  .inl (.boolean, 20, .inl fun _ => 0),
  .inl (.int, 20, .inl fun _ => 0),
  .inl (.int, 20, .inl fun _ => 0),
  .inl (.int, 20, .inl fun _ => 0),
  .inl (.int, 20, .inl fun _ => 0),
  .inr (3, [.int 0, .int 0, .ref 82, .int 0, .ref 83, .int 0, .ref 84, .ref 85, .ref 86, .ref 87, .int 0, .int 0, .int 0, .int 0, .int 0]),
  .inl (.int, 8, .inl fun _ => 0),
  .inl (.boolean, 20, .inl fun _ => 0),
  .inl (.int, 20, .inl fun _ => 0),
  .inl (.int, 20, .inl fun _ => 0),
  .inl (.int, 20, .inl fun _ => 0),
  .inl (.int, 20, .inl fun _ => 0),
  .inr (3, [.int 0, .int 0, .ref 89, .int 0, .ref 90, .int 0, .ref 91, .ref 92, .ref 93, .ref 94, .int 0, .int 0, .int 0, .int 0, .int 0]),
  .inl (.int, 8, .inl fun _ => 0),
  .inl (.boolean, 20, .inl fun _ => 0),
  .inl (.int, 20, .inl fun _ => 0),
  .inl (.int, 20, .inl fun _ => 0),
  .inl (.int, 20, .inl fun _ => 0),
  .inl (.int, 20, .inl fun _ => 0),
  .inr (3, [.int 0, .int 0, .ref 96, .int 0, .ref 97, .int 0, .ref 98, .ref 99, .ref 100, .ref 101, .int 0, .int 0, .int 0, .int 0, .int 0]),
  .inl (.int, 8, .inl fun _ => 0),
  .inl (.boolean, 20, .inl fun _ => 0),
  .inl (.int, 20, .inl fun _ => 0),
  .inl (.int, 20, .inl fun _ => 0),
  .inl (.int, 20, .inl fun _ => 0),
  .inl (.int, 20, .inl fun _ => 0),
  .inr (4, [.ref 103, .null, .null, .null]),
  .inr (6, [.int 0, .ref 104, .ref 105, .ref 106, .int 0, .ref 107, .int 0]),
  .inl (.int, 8, .inl fun _ => 0),
  .inl (.byte, 48, .inl fun _ => 0),
  .inl (.int, 8, .inl fun _ => 0),
  .inl (.int, 3, .inl fun _ => 0),
  .inr (1, [.ref 109, .ref 110, .ref 111, .ref 112, .ref 113, .ref 114, .ref 115, .ref 116, .ref 117, .ref 118, .ref 119, .ref 120]),
  .inl (.int, 1000, .inl fun _ => 0),
  .inl (.int, 1000, .inl fun _ => 0),
  .inl (.boolean, 20, .inl fun _ => 0),
  .inl (.int, 20, .inl fun _ => 0),
  .inl (.int, 20, .inl fun _ => 0),
  .inl (.int, 20, .inl fun _ => 0),
  .inl (.int, 20, .inl fun _ => 0),
  .inl (.int, 20, .inl fun _ => 0),
  .inl (.int, 20, .inl fun _ => 0),
  .inl (.int, 20, .inl fun _ => 0),
  .inl (.int, 20, .inl fun _ => 0),
  .inl (.int, 20, .inl fun _ => 0)]
def hx_32 : a_H := [.inr (8, [.ref 1, .int 0, .ref 2, .int 0, .ref 3, .ref 5, .ref 10, .ref 42, .ref 44, .null, .null, .null, .null, .null, .null, .int 0]),
  .inl (.byte, 600, .inl fun _ => 0),
  .inl (.byte, 16, .inl fun _ => 0),
  .inr (7, [.ref 4, .int 0, .int 0, .int 0, .int 0, .int 0, .int (0 : Int32), .int (-1 : Int32)]),
  .inl (.byte, 0, .inl fun _ => 0),
  .inr (6, [.int 0, .ref 6, .ref 7, .ref 8, .int 0, .ref 9, .int 0]),
  .inl (.int, 8, .inl fun _ => 0),
  .inl (.byte, 48, .inl fun _ => 0),
  .inl (.int, 8, .inl fun _ => 0),
  .inl (.int, 3, .inl fun _ => 0),
  .inr (5, [.ref 11, .int 0]),
  .inl (.array .int, 30, .inr (.inr (.inr (.inr (fun i => if i < 30 then some (12 + i) else none))))),
  .inl (.int, 7, .inl fun _ => 0),
  .inl (.int, 7, .inl fun _ => 0),
  .inl (.int, 7, .inl fun _ => 0),
  .inl (.int, 7, .inl fun _ => 0),
  .inl (.int, 7, .inl fun _ => 0),
  .inl (.int, 7, .inl fun _ => 0),
  .inl (.int, 7, .inl fun _ => 0),
  .inl (.int, 7, .inl fun _ => 0),
  .inl (.int, 7, .inl fun _ => 0),
  .inl (.int, 7, .inl fun _ => 0),
  .inl (.int, 7, .inl fun _ => 0),
  .inl (.int, 7, .inl fun _ => 0),
  .inl (.int, 7, .inl fun _ => 0),
  .inl (.int, 7, .inl fun _ => 0),
  .inl (.int, 7, .inl fun _ => 0),
  .inl (.int, 7, .inl fun _ => 0),
  .inl (.int, 7, .inl fun _ => 0),
  .inl (.int, 7, .inl fun _ => 0),
  .inl (.int, 7, .inl fun _ => 0),
  .inl (.int, 7, .inl fun _ => 0),
  .inl (.int, 7, .inl fun _ => 0),
  .inl (.int, 7, .inl fun _ => 0),
  .inl (.int, 7, .inl fun _ => 0),
  .inl (.int, 7, .inl fun _ => 0),
  .inl (.int, 7, .inl fun _ => 0),
  .inl (.int, 7, .inl fun _ => 0),
  .inl (.int, 7, .inl fun _ => 0),
  .inl (.int, 7, .inl fun _ => 0),
  .inl (.int, 7, .inl fun _ => 0),
  .inl (.int, 7, .inl fun _ => 0),
  .inr (0, [.ref 43, .int 0]),
  .inl (.int, 24, .inl fun _ => 0),
  .inr (2, [.ref 45, .int 0, .int 0]),
  .inl (.object RX3, 8, .inr (.inr (.inr (.inr (va_up (va_up (va_up (va_up (va_up (va_up (va_up (va_up (fun _ => none) 0 (some 46)) 1 (some 53)) 2 (some 60)) 3 (some 67)) 4 (some 74)) 5 (some 81)) 6 (some 88)) 7 (some 95)))))),
  .inr (3, [.int 0, .int 0, .ref 47, .int 0, .ref 48, .int 0, .ref 49, .ref 50, .ref 51, .ref 52, .int 0, .int 0, .int 0, .int 0, .int 0]),
  .inl (.int, 8, .inl fun _ => 0),
  .inl (.boolean, 20, .inl fun _ => 0),
  .inl (.int, 20, .inl fun _ => 0),
  .inl (.int, 20, .inl fun _ => 0),
  .inl (.int, 20, .inl fun _ => 0),
  .inl (.int, 20, .inl fun _ => 0),
  .inr (3, [.int 0, .int 0, .ref 54, .int 0, .ref 55, .int 0, .ref 56, .ref 57, .ref 58, .ref 59, .int 0, .int 0, .int 0, .int 0, .int 0]),
  .inl (.int, 8, .inl fun _ => 0),
  .inl (.boolean, 20, .inl fun _ => 0),
  .inl (.int, 20, .inl fun _ => 0),
  .inl (.int, 20, .inl fun _ => 0),
  .inl (.int, 20, .inl fun _ => 0),
  .inl (.int, 20, .inl fun _ => 0),
  .inr (3, [.int 0, .int 0, .ref 61, .int 0, .ref 62, .int 0, .ref 63, .ref 64, .ref 65, .ref 66, .int 0, .int 0, .int 0, .int 0, .int 0]),
  .inl (.int, 8, .inl fun _ => 0),
  .inl (.boolean, 20, .inl fun _ => 0),
  .inl (.int, 20, .inl fun _ => 0),
  .inl (.int, 20, .inl fun _ => 0),
  .inl (.int, 20, .inl fun _ => 0),
  .inl (.int, 20, .inl fun _ => 0),
  .inr (3, [.int 0, .int 0, .ref 68, .int 0, .ref 69, .int 0, .ref 70, .ref 71, .ref 72, .ref 73, .int 0, .int 0, .int 0, .int 0, .int 0]),
  .inl (.int, 8, .inl fun _ => 0),
  .inl (.boolean, 20, .inl fun _ => 0),
  .inl (.int, 20, .inl fun _ => 0),
  .inl (.int, 20, .inl fun _ => 0),
  .inl (.int, 20, .inl fun _ => 0),
  .inl (.int, 20, .inl fun _ => 0),
  .inr (3, [.int 0, .int 0, .ref 75, .int 0, .ref 76, .int 0, .ref 77, .ref 78, .ref 79, .ref 80, .int 0, .int 0, .int 0, .int 0, .int 0]),
  .inl (.int, 8, .inl fun _ => 0),
  .inl (.boolean, 20, .inl fun _ => 0),
  .inl (.int, 20, .inl fun _ => 0),
  .inl (.int, 20, .inl fun _ => 0),
  .inl (.int, 20, .inl fun _ => 0),
  .inl (.int, 20, .inl fun _ => 0),
  .inr (3, [.int 0, .int 0, .ref 82, .int 0, .ref 83, .int 0, .ref 84, .ref 85, .ref 86, .ref 87, .int 0, .int 0, .int 0, .int 0, .int 0]),
  .inl (.int, 8, .inl fun _ => 0),
  .inl (.boolean, 20, .inl fun _ => 0),
  .inl (.int, 20, .inl fun _ => 0),
  .inl (.int, 20, .inl fun _ => 0),
  .inl (.int, 20, .inl fun _ => 0),
  .inl (.int, 20, .inl fun _ => 0),
  .inr (3, [.int 0, .int 0, .ref 89, .int 0, .ref 90, .int 0, .ref 91, .ref 92, .ref 93, .ref 94, .int 0, .int 0, .int 0, .int 0, .int 0]),
  .inl (.int, 8, .inl fun _ => 0),
  .inl (.boolean, 20, .inl fun _ => 0),
  .inl (.int, 20, .inl fun _ => 0),
  .inl (.int, 20, .inl fun _ => 0),
  .inl (.int, 20, .inl fun _ => 0),
  .inl (.int, 20, .inl fun _ => 0),
  .inr (3, [.int 0, .int 0, .ref 96, .int 0, .ref 97, .int 0, .ref 98, .ref 99, .ref 100, .ref 101, .int 0, .int 0, .int 0, .int 0, .int 0]),
  .inl (.int, 8, .inl fun _ => 0),
  .inl (.boolean, 20, .inl fun _ => 0),
  .inl (.int, 20, .inl fun _ => 0),
  .inl (.int, 20, .inl fun _ => 0),
  .inl (.int, 20, .inl fun _ => 0),
  .inl (.int, 20, .inl fun _ => 0),
  .inr (4, [.ref 103, .ref 108, .null, .null]),
  .inr (6, [.int 0, .ref 104, .ref 105, .ref 106, .int 0, .ref 107, .int 0]),
  .inl (.int, 8, .inl fun _ => 0),
  .inl (.byte, 48, .inl fun _ => 0),
  .inl (.int, 8, .inl fun _ => 0),
  .inl (.int, 3, .inl fun _ => 0),
  .inr (1, [.ref 109, .ref 110, .ref 111, .ref 112, .ref 113, .ref 114, .ref 115, .ref 116, .ref 117, .ref 118, .ref 119, .ref 120]),
  .inl (.int, 1000, .inl fun _ => 0),
  .inl (.int, 1000, .inl fun _ => 0),
  .inl (.boolean, 20, .inl fun _ => 0),
  .inl (.int, 20, .inl fun _ => 0),
  .inl (.int, 20, .inl fun _ => 0),
  .inl (.int, 20, .inl fun _ => 0),
  .inl (.int, 20, .inl fun _ => 0),
  .inl (.int, 20, .inl fun _ => 0),
  .inl (.int, 20, .inl fun _ => 0),
  .inl (.int, 20, .inl fun _ => 0),
  .inl (.int, 20, .inl fun _ => 0),
  .inl (.int, 20, .inl fun _ => 0),
  .inr (3, [.int 0, .int 0, .null, .int 0, .null, .int 0, .null, .null, .null, .null, .int 0, .int 0, .int 0, .int 0, .int 0])]
def hx_33 : a_H := [.inr (8, [.ref 1, .int 0, .ref 2, .int 0, .ref 3, .ref 5, .ref 10, .ref 42, .ref 44, .null, .null, .null, .null, .null, .null, .int 0]),
  .inl (.byte, 600, .inl fun _ => 0),
  .inl (.byte, 16, .inl fun _ => 0),
  .inr (7, [.ref 4, .int 0, .int 0, .int 0, .int 0, .int 0, .int (0 : Int32), .int (-1 : Int32)]),
  .inl (.byte, 0, .inl fun _ => 0),
  .inr (6, [.int 0, .ref 6, .ref 7, .ref 8, .int 0, .ref 9, .int 0]),
  .inl (.int, 8, .inl fun _ => 0),
  .inl (.byte, 48, .inl fun _ => 0),
  .inl (.int, 8, .inl fun _ => 0),
  .inl (.int, 3, .inl fun _ => 0),
  .inr (5, [.ref 11, .int 0]),
  .inl (.array .int, 30, .inr (.inr (.inr (.inr (fun i => if i < 30 then some (12 + i) else none))))),
  .inl (.int, 7, .inl fun _ => 0),
  .inl (.int, 7, .inl fun _ => 0),
  .inl (.int, 7, .inl fun _ => 0),
  .inl (.int, 7, .inl fun _ => 0),
  .inl (.int, 7, .inl fun _ => 0),
  .inl (.int, 7, .inl fun _ => 0),
  .inl (.int, 7, .inl fun _ => 0),
  .inl (.int, 7, .inl fun _ => 0),
  .inl (.int, 7, .inl fun _ => 0),
  .inl (.int, 7, .inl fun _ => 0),
  .inl (.int, 7, .inl fun _ => 0),
  .inl (.int, 7, .inl fun _ => 0),
  .inl (.int, 7, .inl fun _ => 0),
  .inl (.int, 7, .inl fun _ => 0),
  .inl (.int, 7, .inl fun _ => 0),
  .inl (.int, 7, .inl fun _ => 0),
  .inl (.int, 7, .inl fun _ => 0),
  .inl (.int, 7, .inl fun _ => 0),
  .inl (.int, 7, .inl fun _ => 0),
  .inl (.int, 7, .inl fun _ => 0),
  .inl (.int, 7, .inl fun _ => 0),
  .inl (.int, 7, .inl fun _ => 0),
  .inl (.int, 7, .inl fun _ => 0),
  .inl (.int, 7, .inl fun _ => 0),
  .inl (.int, 7, .inl fun _ => 0),
  .inl (.int, 7, .inl fun _ => 0),
  .inl (.int, 7, .inl fun _ => 0),
  .inl (.int, 7, .inl fun _ => 0),
  .inl (.int, 7, .inl fun _ => 0),
  .inl (.int, 7, .inl fun _ => 0),
  .inr (0, [.ref 43, .int 0]),
  .inl (.int, 24, .inl fun _ => 0),
  .inr (2, [.ref 45, .int 0, .int 0]),
  .inl (.object RX3, 8, .inr (.inr (.inr (.inr (va_up (va_up (va_up (va_up (va_up (va_up (va_up (va_up (fun _ => none) 0 (some 46)) 1 (some 53)) 2 (some 60)) 3 (some 67)) 4 (some 74)) 5 (some 81)) 6 (some 88)) 7 (some 95)))))),
  .inr (3, [.int 0, .int 0, .ref 47, .int 0, .ref 48, .int 0, .ref 49, .ref 50, .ref 51, .ref 52, .int 0, .int 0, .int 0, .int 0, .int 0]),
  .inl (.int, 8, .inl fun _ => 0),
  .inl (.boolean, 20, .inl fun _ => 0),
  .inl (.int, 20, .inl fun _ => 0),
  .inl (.int, 20, .inl fun _ => 0),
  .inl (.int, 20, .inl fun _ => 0),
  .inl (.int, 20, .inl fun _ => 0),
  .inr (3, [.int 0, .int 0, .ref 54, .int 0, .ref 55, .int 0, .ref 56, .ref 57, .ref 58, .ref 59, .int 0, .int 0, .int 0, .int 0, .int 0]),
  .inl (.int, 8, .inl fun _ => 0),
  .inl (.boolean, 20, .inl fun _ => 0),
  .inl (.int, 20, .inl fun _ => 0),
  .inl (.int, 20, .inl fun _ => 0),
  .inl (.int, 20, .inl fun _ => 0),
  .inl (.int, 20, .inl fun _ => 0),
  .inr (3, [.int 0, .int 0, .ref 61, .int 0, .ref 62, .int 0, .ref 63, .ref 64, .ref 65, .ref 66, .int 0, .int 0, .int 0, .int 0, .int 0]),
  .inl (.int, 8, .inl fun _ => 0),
  .inl (.boolean, 20, .inl fun _ => 0),
  .inl (.int, 20, .inl fun _ => 0),
  .inl (.int, 20, .inl fun _ => 0),
  .inl (.int, 20, .inl fun _ => 0),
  .inl (.int, 20, .inl fun _ => 0),
  .inr (3, [.int 0, .int 0, .ref 68, .int 0, .ref 69, .int 0, .ref 70, .ref 71, .ref 72, .ref 73, .int 0, .int 0, .int 0, .int 0, .int 0]),
  .inl (.int, 8, .inl fun _ => 0),
  .inl (.boolean, 20, .inl fun _ => 0),
  .inl (.int, 20, .inl fun _ => 0),
  .inl (.int, 20, .inl fun _ => 0),
  .inl (.int, 20, .inl fun _ => 0),
  .inl (.int, 20, .inl fun _ => 0),
  .inr (3, [.int 0, .int 0, .ref 75, .int 0, .ref 76, .int 0, .ref 77, .ref 78, .ref 79, .ref 80, .int 0, .int 0, .int 0, .int 0, .int 0]),
  .inl (.int, 8, .inl fun _ => 0),
  .inl (.boolean, 20, .inl fun _ => 0),
  .inl (.int, 20, .inl fun _ => 0),
  .inl (.int, 20, .inl fun _ => 0),
  .inl (.int, 20, .inl fun _ => 0),
  .inl (.int, 20, .inl fun _ => 0),
  .inr (3, [.int 0, .int 0, .ref 82, .int 0, .ref 83, .int 0, .ref 84, .ref 85, .ref 86, .ref 87, .int 0, .int 0, .int 0, .int 0, .int 0]),
  .inl (.int, 8, .inl fun _ => 0),
  .inl (.boolean, 20, .inl fun _ => 0),
  .inl (.int, 20, .inl fun _ => 0),
  .inl (.int, 20, .inl fun _ => 0),
  .inl (.int, 20, .inl fun _ => 0),
  .inl (.int, 20, .inl fun _ => 0),
  .inr (3, [.int 0, .int 0, .ref 89, .int 0, .ref 90, .int 0, .ref 91, .ref 92, .ref 93, .ref 94, .int 0, .int 0, .int 0, .int 0, .int 0]),
  .inl (.int, 8, .inl fun _ => 0),
  .inl (.boolean, 20, .inl fun _ => 0),
  .inl (.int, 20, .inl fun _ => 0),
  .inl (.int, 20, .inl fun _ => 0),
  .inl (.int, 20, .inl fun _ => 0),
  .inl (.int, 20, .inl fun _ => 0),
  .inr (3, [.int 0, .int 0, .ref 96, .int 0, .ref 97, .int 0, .ref 98, .ref 99, .ref 100, .ref 101, .int 0, .int 0, .int 0, .int 0, .int 0]),
  .inl (.int, 8, .inl fun _ => 0),
  .inl (.boolean, 20, .inl fun _ => 0),
  .inl (.int, 20, .inl fun _ => 0),
  .inl (.int, 20, .inl fun _ => 0),
  .inl (.int, 20, .inl fun _ => 0),
  .inl (.int, 20, .inl fun _ => 0),
  .inr (4, [.ref 103, .ref 108, .null, .null]),
  .inr (6, [.int 0, .ref 104, .ref 105, .ref 106, .int 0, .ref 107, .int 0]),
  .inl (.int, 8, .inl fun _ => 0),
  .inl (.byte, 48, .inl fun _ => 0),
  .inl (.int, 8, .inl fun _ => 0),
  .inl (.int, 3, .inl fun _ => 0),
  .inr (1, [.ref 109, .ref 110, .ref 111, .ref 112, .ref 113, .ref 114, .ref 115, .ref 116, .ref 117, .ref 118, .ref 119, .ref 120]),
  .inl (.int, 1000, .inl fun _ => 0),
  .inl (.int, 1000, .inl fun _ => 0),
  .inl (.boolean, 20, .inl fun _ => 0),
  .inl (.int, 20, .inl fun _ => 0),
  .inl (.int, 20, .inl fun _ => 0),
  .inl (.int, 20, .inl fun _ => 0),
  .inl (.int, 20, .inl fun _ => 0),
  .inl (.int, 20, .inl fun _ => 0),
  .inl (.int, 20, .inl fun _ => 0),
  .inl (.int, 20, .inl fun _ => 0),
  .inl (.int, 20, .inl fun _ => 0),
  .inl (.int, 20, .inl fun _ => 0),
  .inr (3, [.int 0, .int 0, .ref 122, .int 0, .ref 123, .int 0, .ref 124, .ref 125, .ref 126, .ref 127, .int 0, .int 0, .int 0, .int 0, .int 0]),
  .inl (.int, 8, .inl fun _ => 0),
  .inl (.boolean, 20, .inl fun _ => 0),
  .inl (.int, 20, .inl fun _ => 0),
  .inl (.int, 20, .inl fun _ => 0),
  .inl (.int, 20, .inl fun _ => 0),
  .inl (.int, 20, .inl fun _ => 0)]
def hx_34 : a_H := [.inr (8, [.ref 1, .int 0, .ref 2, .int 0, .ref 3, .ref 5, .ref 10, .ref 42, .ref 44, .null, .null, .null, .null, .null, .null, .int 0]),
  .inl (.byte, 600, .inl fun _ => 0),
  .inl (.byte, 16, .inl fun _ => 0),
  .inr (7, [.ref 4, .int 0, .int 0, .int 0, .int 0, .int 0, .int (0 : Int32), .int (-1 : Int32)]),
  .inl (.byte, 0, .inl fun _ => 0),
  .inr (6, [.int 0, .ref 6, .ref 7, .ref 8, .int 0, .ref 9, .int 0]),
  .inl (.int, 8, .inl fun _ => 0),
  .inl (.byte, 48, .inl fun _ => 0),
  .inl (.int, 8, .inl fun _ => 0),
  .inl (.int, 3, .inl fun _ => 0),
  .inr (5, [.ref 11, .int 0]),
  .inl (.array .int, 30, .inr (.inr (.inr (.inr (fun i => if i < 30 then some (12 + i) else none))))),
  .inl (.int, 7, .inl fun _ => 0),
  .inl (.int, 7, .inl fun _ => 0),
  .inl (.int, 7, .inl fun _ => 0),
  .inl (.int, 7, .inl fun _ => 0),
  .inl (.int, 7, .inl fun _ => 0),
  .inl (.int, 7, .inl fun _ => 0),
  .inl (.int, 7, .inl fun _ => 0),
  .inl (.int, 7, .inl fun _ => 0),
  .inl (.int, 7, .inl fun _ => 0),
  .inl (.int, 7, .inl fun _ => 0),
  .inl (.int, 7, .inl fun _ => 0),
  .inl (.int, 7, .inl fun _ => 0),
  .inl (.int, 7, .inl fun _ => 0),
  .inl (.int, 7, .inl fun _ => 0),
  .inl (.int, 7, .inl fun _ => 0),
  .inl (.int, 7, .inl fun _ => 0),
  .inl (.int, 7, .inl fun _ => 0),
  .inl (.int, 7, .inl fun _ => 0),
  .inl (.int, 7, .inl fun _ => 0),
  .inl (.int, 7, .inl fun _ => 0),
  .inl (.int, 7, .inl fun _ => 0),
  .inl (.int, 7, .inl fun _ => 0),
  .inl (.int, 7, .inl fun _ => 0),
  .inl (.int, 7, .inl fun _ => 0),
  .inl (.int, 7, .inl fun _ => 0),
  .inl (.int, 7, .inl fun _ => 0),
  .inl (.int, 7, .inl fun _ => 0),
  .inl (.int, 7, .inl fun _ => 0),
  .inl (.int, 7, .inl fun _ => 0),
  .inl (.int, 7, .inl fun _ => 0),
  .inr (0, [.ref 43, .int 0]),
  .inl (.int, 24, .inl fun _ => 0),
  .inr (2, [.ref 45, .int 0, .int 0]),
  .inl (.object RX3, 8, .inr (.inr (.inr (.inr (va_up (va_up (va_up (va_up (va_up (va_up (va_up (va_up (fun _ => none) 0 (some 46)) 1 (some 53)) 2 (some 60)) 3 (some 67)) 4 (some 74)) 5 (some 81)) 6 (some 88)) 7 (some 95)))))),
  .inr (3, [.int 0, .int 0, .ref 47, .int 0, .ref 48, .int 0, .ref 49, .ref 50, .ref 51, .ref 52, .int 0, .int 0, .int 0, .int 0, .int 0]),
  .inl (.int, 8, .inl fun _ => 0),
  .inl (.boolean, 20, .inl fun _ => 0),
  .inl (.int, 20, .inl fun _ => 0),
  .inl (.int, 20, .inl fun _ => 0),
  .inl (.int, 20, .inl fun _ => 0),
  .inl (.int, 20, .inl fun _ => 0),
  .inr (3, [.int 0, .int 0, .ref 54, .int 0, .ref 55, .int 0, .ref 56, .ref 57, .ref 58, .ref 59, .int 0, .int 0, .int 0, .int 0, .int 0]),
  .inl (.int, 8, .inl fun _ => 0),
  .inl (.boolean, 20, .inl fun _ => 0),
  .inl (.int, 20, .inl fun _ => 0),
  .inl (.int, 20, .inl fun _ => 0),
  .inl (.int, 20, .inl fun _ => 0),
  .inl (.int, 20, .inl fun _ => 0),
  .inr (3, [.int 0, .int 0, .ref 61, .int 0, .ref 62, .int 0, .ref 63, .ref 64, .ref 65, .ref 66, .int 0, .int 0, .int 0, .int 0, .int 0]),
  .inl (.int, 8, .inl fun _ => 0),
  .inl (.boolean, 20, .inl fun _ => 0),
  .inl (.int, 20, .inl fun _ => 0),
  .inl (.int, 20, .inl fun _ => 0),
  .inl (.int, 20, .inl fun _ => 0),
  .inl (.int, 20, .inl fun _ => 0),
  .inr (3, [.int 0, .int 0, .ref 68, .int 0, .ref 69, .int 0, .ref 70, .ref 71, .ref 72, .ref 73, .int 0, .int 0, .int 0, .int 0, .int 0]),
  .inl (.int, 8, .inl fun _ => 0),
  .inl (.boolean, 20, .inl fun _ => 0),
  .inl (.int, 20, .inl fun _ => 0),
  .inl (.int, 20, .inl fun _ => 0),
  .inl (.int, 20, .inl fun _ => 0),
  .inl (.int, 20, .inl fun _ => 0),
  .inr (3, [.int 0, .int 0, .ref 75, .int 0, .ref 76, .int 0, .ref 77, .ref 78, .ref 79, .ref 80, .int 0, .int 0, .int 0, .int 0, .int 0]),
  .inl (.int, 8, .inl fun _ => 0),
  .inl (.boolean, 20, .inl fun _ => 0),
  .inl (.int, 20, .inl fun _ => 0),
  .inl (.int, 20, .inl fun _ => 0),
  .inl (.int, 20, .inl fun _ => 0),
  .inl (.int, 20, .inl fun _ => 0),
  .inr (3, [.int 0, .int 0, .ref 82, .int 0, .ref 83, .int 0, .ref 84, .ref 85, .ref 86, .ref 87, .int 0, .int 0, .int 0, .int 0, .int 0]),
  .inl (.int, 8, .inl fun _ => 0),
  .inl (.boolean, 20, .inl fun _ => 0),
  .inl (.int, 20, .inl fun _ => 0),
  .inl (.int, 20, .inl fun _ => 0),
  .inl (.int, 20, .inl fun _ => 0),
  .inl (.int, 20, .inl fun _ => 0),
  .inr (3, [.int 0, .int 0, .ref 89, .int 0, .ref 90, .int 0, .ref 91, .ref 92, .ref 93, .ref 94, .int 0, .int 0, .int 0, .int 0, .int 0]),
  .inl (.int, 8, .inl fun _ => 0),
  .inl (.boolean, 20, .inl fun _ => 0),
  .inl (.int, 20, .inl fun _ => 0),
  .inl (.int, 20, .inl fun _ => 0),
  .inl (.int, 20, .inl fun _ => 0),
  .inl (.int, 20, .inl fun _ => 0),
  .inr (3, [.int 0, .int 0, .ref 96, .int 0, .ref 97, .int 0, .ref 98, .ref 99, .ref 100, .ref 101, .int 0, .int 0, .int 0, .int 0, .int 0]),
  .inl (.int, 8, .inl fun _ => 0),
  .inl (.boolean, 20, .inl fun _ => 0),
  .inl (.int, 20, .inl fun _ => 0),
  .inl (.int, 20, .inl fun _ => 0),
  .inl (.int, 20, .inl fun _ => 0),
  .inl (.int, 20, .inl fun _ => 0),
  .inr (4, [.ref 103, .ref 108, .ref 121, .null]),
  .inr (6, [.int 0, .ref 104, .ref 105, .ref 106, .int 0, .ref 107, .int 0]),
  .inl (.int, 8, .inl fun _ => 0),
  .inl (.byte, 48, .inl fun _ => 0),
  .inl (.int, 8, .inl fun _ => 0),
  .inl (.int, 3, .inl fun _ => 0),
  .inr (1, [.ref 109, .ref 110, .ref 111, .ref 112, .ref 113, .ref 114, .ref 115, .ref 116, .ref 117, .ref 118, .ref 119, .ref 120]),
  .inl (.int, 1000, .inl fun _ => 0),
  .inl (.int, 1000, .inl fun _ => 0),
  .inl (.boolean, 20, .inl fun _ => 0),
  .inl (.int, 20, .inl fun _ => 0),
  .inl (.int, 20, .inl fun _ => 0),
  .inl (.int, 20, .inl fun _ => 0),
  .inl (.int, 20, .inl fun _ => 0),
  .inl (.int, 20, .inl fun _ => 0),
  .inl (.int, 20, .inl fun _ => 0),
  .inl (.int, 20, .inl fun _ => 0),
  .inl (.int, 20, .inl fun _ => 0),
  .inl (.int, 20, .inl fun _ => 0),
  .inr (3, [.int 0, .int 0, .ref 122, .int 0, .ref 123, .int 0, .ref 124, .ref 125, .ref 126, .ref 127, .int 0, .int 0, .int 0, .int 0, .int 0]),
  .inl (.int, 8, .inl fun _ => 0),
  .inl (.boolean, 20, .inl fun _ => 0),
  .inl (.int, 20, .inl fun _ => 0),
  .inl (.int, 20, .inl fun _ => 0),
  .inl (.int, 20, .inl fun _ => 0),
  .inl (.int, 20, .inl fun _ => 0),
  .inr (3, [.int 0, .int 0, .null, .int 0, .null, .int 0, .null, .null, .null, .null, .int 0, .int 0, .int 0, .int 0, .int 0])]
def hx_35 : a_H := [.inr (8, [.ref 1, .int 0, .ref 2, .int 0, .ref 3, .ref 5, .ref 10, .ref 42, .ref 44, .null, .null, .null, .null, .null, .null, .int 0]),
  .inl (.byte, 600, .inl fun _ => 0),
  .inl (.byte, 16, .inl fun _ => 0),
  .inr (7, [.ref 4, .int 0, .int 0, .int 0, .int 0, .int 0, .int (0 : Int32), .int (-1 : Int32)]),
  .inl (.byte, 0, .inl fun _ => 0),
  .inr (6, [.int 0, .ref 6, .ref 7, .ref 8, .int 0, .ref 9, .int 0]),
  .inl (.int, 8, .inl fun _ => 0),
  .inl (.byte, 48, .inl fun _ => 0),
  .inl (.int, 8, .inl fun _ => 0),
  .inl (.int, 3, .inl fun _ => 0),
  .inr (5, [.ref 11, .int 0]),
  .inl (.array .int, 30, .inr (.inr (.inr (.inr (fun i => if i < 30 then some (12 + i) else none))))),
  .inl (.int, 7, .inl fun _ => 0),
  .inl (.int, 7, .inl fun _ => 0),
  .inl (.int, 7, .inl fun _ => 0),
  .inl (.int, 7, .inl fun _ => 0),
  .inl (.int, 7, .inl fun _ => 0),
  .inl (.int, 7, .inl fun _ => 0),
  .inl (.int, 7, .inl fun _ => 0),
  .inl (.int, 7, .inl fun _ => 0),
  .inl (.int, 7, .inl fun _ => 0),
  .inl (.int, 7, .inl fun _ => 0),
  .inl (.int, 7, .inl fun _ => 0),
  .inl (.int, 7, .inl fun _ => 0),
  .inl (.int, 7, .inl fun _ => 0),
  .inl (.int, 7, .inl fun _ => 0),
  .inl (.int, 7, .inl fun _ => 0),
  .inl (.int, 7, .inl fun _ => 0),
  .inl (.int, 7, .inl fun _ => 0),
  .inl (.int, 7, .inl fun _ => 0),
  .inl (.int, 7, .inl fun _ => 0),
  .inl (.int, 7, .inl fun _ => 0),
  .inl (.int, 7, .inl fun _ => 0),
  .inl (.int, 7, .inl fun _ => 0),
  .inl (.int, 7, .inl fun _ => 0),
  .inl (.int, 7, .inl fun _ => 0),
  .inl (.int, 7, .inl fun _ => 0),
  .inl (.int, 7, .inl fun _ => 0),
  .inl (.int, 7, .inl fun _ => 0),
  .inl (.int, 7, .inl fun _ => 0),
  .inl (.int, 7, .inl fun _ => 0),
  .inl (.int, 7, .inl fun _ => 0),
  .inr (0, [.ref 43, .int 0]),
  .inl (.int, 24, .inl fun _ => 0),
  .inr (2, [.ref 45, .int 0, .int 0]),
  .inl (.object RX3, 8, .inr (.inr (.inr (.inr (va_up (va_up (va_up (va_up (va_up (va_up (va_up (va_up (fun _ => none) 0 (some 46)) 1 (some 53)) 2 (some 60)) 3 (some 67)) 4 (some 74)) 5 (some 81)) 6 (some 88)) 7 (some 95)))))),
  .inr (3, [.int 0, .int 0, .ref 47, .int 0, .ref 48, .int 0, .ref 49, .ref 50, .ref 51, .ref 52, .int 0, .int 0, .int 0, .int 0, .int 0]),
  .inl (.int, 8, .inl fun _ => 0),
  .inl (.boolean, 20, .inl fun _ => 0),
  .inl (.int, 20, .inl fun _ => 0),
  .inl (.int, 20, .inl fun _ => 0),
  .inl (.int, 20, .inl fun _ => 0),
  .inl (.int, 20, .inl fun _ => 0),
  .inr (3, [.int 0, .int 0, .ref 54, .int 0, .ref 55, .int 0, .ref 56, .ref 57, .ref 58, .ref 59, .int 0, .int 0, .int 0, .int 0, .int 0]),
  .inl (.int, 8, .inl fun _ => 0),
  .inl (.boolean, 20, .inl fun _ => 0),
  .inl (.int, 20, .inl fun _ => 0),
  .inl (.int, 20, .inl fun _ => 0),
  .inl (.int, 20, .inl fun _ => 0),
  .inl (.int, 20, .inl fun _ => 0),
  .inr (3, [.int 0, .int 0, .ref 61, .int 0, .ref 62, .int 0, .ref 63, .ref 64, .ref 65, .ref 66, .int 0, .int 0, .int 0, .int 0, .int 0]),
  .inl (.int, 8, .inl fun _ => 0),
  .inl (.boolean, 20, .inl fun _ => 0),
  .inl (.int, 20, .inl fun _ => 0),
  .inl (.int, 20, .inl fun _ => 0),
  .inl (.int, 20, .inl fun _ => 0),
  .inl (.int, 20, .inl fun _ => 0),
  .inr (3, [.int 0, .int 0, .ref 68, .int 0, .ref 69, .int 0, .ref 70, .ref 71, .ref 72, .ref 73, .int 0, .int 0, .int 0, .int 0, .int 0]),
  .inl (.int, 8, .inl fun _ => 0),
  .inl (.boolean, 20, .inl fun _ => 0),
  .inl (.int, 20, .inl fun _ => 0),
  .inl (.int, 20, .inl fun _ => 0),
  .inl (.int, 20, .inl fun _ => 0),
  .inl (.int, 20, .inl fun _ => 0),
  .inr (3, [.int 0, .int 0, .ref 75, .int 0, .ref 76, .int 0, .ref 77, .ref 78, .ref 79, .ref 80, .int 0, .int 0, .int 0, .int 0, .int 0]),
  .inl (.int, 8, .inl fun _ => 0),
  .inl (.boolean, 20, .inl fun _ => 0),
  .inl (.int, 20, .inl fun _ => 0),
  .inl (.int, 20, .inl fun _ => 0),
  .inl (.int, 20, .inl fun _ => 0),
  .inl (.int, 20, .inl fun _ => 0),
  .inr (3, [.int 0, .int 0, .ref 82, .int 0, .ref 83, .int 0, .ref 84, .ref 85, .ref 86, .ref 87, .int 0, .int 0, .int 0, .int 0, .int 0]),
  .inl (.int, 8, .inl fun _ => 0),
  .inl (.boolean, 20, .inl fun _ => 0),
  .inl (.int, 20, .inl fun _ => 0),
  .inl (.int, 20, .inl fun _ => 0),
  .inl (.int, 20, .inl fun _ => 0),
  .inl (.int, 20, .inl fun _ => 0),
  .inr (3, [.int 0, .int 0, .ref 89, .int 0, .ref 90, .int 0, .ref 91, .ref 92, .ref 93, .ref 94, .int 0, .int 0, .int 0, .int 0, .int 0]),
  .inl (.int, 8, .inl fun _ => 0),
  .inl (.boolean, 20, .inl fun _ => 0),
  .inl (.int, 20, .inl fun _ => 0),
  .inl (.int, 20, .inl fun _ => 0),
  .inl (.int, 20, .inl fun _ => 0),
  .inl (.int, 20, .inl fun _ => 0),
  .inr (3, [.int 0, .int 0, .ref 96, .int 0, .ref 97, .int 0, .ref 98, .ref 99, .ref 100, .ref 101, .int 0, .int 0, .int 0, .int 0, .int 0]),
  .inl (.int, 8, .inl fun _ => 0),
  .inl (.boolean, 20, .inl fun _ => 0),
  .inl (.int, 20, .inl fun _ => 0),
  .inl (.int, 20, .inl fun _ => 0),
  .inl (.int, 20, .inl fun _ => 0),
  .inl (.int, 20, .inl fun _ => 0),
  .inr (4, [.ref 103, .ref 108, .ref 121, .null]),
  .inr (6, [.int 0, .ref 104, .ref 105, .ref 106, .int 0, .ref 107, .int 0]),
  .inl (.int, 8, .inl fun _ => 0),
  .inl (.byte, 48, .inl fun _ => 0),
  .inl (.int, 8, .inl fun _ => 0),
  .inl (.int, 3, .inl fun _ => 0),
  .inr (1, [.ref 109, .ref 110, .ref 111, .ref 112, .ref 113, .ref 114, .ref 115, .ref 116, .ref 117, .ref 118, .ref 119, .ref 120]),
  .inl (.int, 1000, .inl fun _ => 0),
  .inl (.int, 1000, .inl fun _ => 0),
  .inl (.boolean, 20, .inl fun _ => 0),
  .inl (.int, 20, .inl fun _ => 0),
  .inl (.int, 20, .inl fun _ => 0),
  .inl (.int, 20, .inl fun _ => 0),
  .inl (.int, 20, .inl fun _ => 0),
  .inl (.int, 20, .inl fun _ => 0),
  .inl (.int, 20, .inl fun _ => 0),
  .inl (.int, 20, .inl fun _ => 0),
  .inl (.int, 20, .inl fun _ => 0),
  .inl (.int, 20, .inl fun _ => 0),
  .inr (3, [.int 0, .int 0, .ref 122, .int 0, .ref 123, .int 0, .ref 124, .ref 125, .ref 126, .ref 127, .int 0, .int 0, .int 0, .int 0, .int 0]),
  .inl (.int, 8, .inl fun _ => 0),
  .inl (.boolean, 20, .inl fun _ => 0),
  .inl (.int, 20, .inl fun _ => 0),
  .inl (.int, 20, .inl fun _ => 0),
  .inl (.int, 20, .inl fun _ => 0),
  .inl (.int, 20, .inl fun _ => 0),
  .inr (3, [.int 0, .int 0, .ref 129, .int 0, .ref 130, .int 0, .ref 131, .ref 132, .ref 133, .ref 134, .int 0, .int 0, .int 0, .int 0, .int 0]),
  .inl (.int, 8, .inl fun _ => 0),
  .inl (.boolean, 20, .inl fun _ => 0),
  .inl (.int, 20, .inl fun _ => 0),
  .inl (.int, 20, .inl fun _ => 0),
  .inl (.int, 20, .inl fun _ => 0),
  .inl (.int, 20, .inl fun _ => 0)]
def hx_36 : a_H := [.inr (8, [.ref 1, .int 0, .ref 2, .int 0, .ref 3, .ref 5, .ref 10, .ref 42, .ref 44, .null, .null, .null, .null, .null, .null, .int 0]),
  .inl (.byte, 600, .inl fun _ => 0),
  .inl (.byte, 16, .inl fun _ => 0),
  .inr (7, [.ref 4, .int 0, .int 0, .int 0, .int 0, .int 0, .int (0 : Int32), .int (-1 : Int32)]),
  .inl (.byte, 0, .inl fun _ => 0),
  .inr (6, [.int 0, .ref 6, .ref 7, .ref 8, .int 0, .ref 9, .int 0]),
  .inl (.int, 8, .inl fun _ => 0),
  .inl (.byte, 48, .inl fun _ => 0),
  .inl (.int, 8, .inl fun _ => 0),
  .inl (.int, 3, .inl fun _ => 0),
  .inr (5, [.ref 11, .int 0]),
  .inl (.array .int, 30, .inr (.inr (.inr (.inr (fun i => if i < 30 then some (12 + i) else none))))),
  .inl (.int, 7, .inl fun _ => 0),
  .inl (.int, 7, .inl fun _ => 0),
  .inl (.int, 7, .inl fun _ => 0),
  .inl (.int, 7, .inl fun _ => 0),
  .inl (.int, 7, .inl fun _ => 0),
  .inl (.int, 7, .inl fun _ => 0),
  .inl (.int, 7, .inl fun _ => 0),
  .inl (.int, 7, .inl fun _ => 0),
  .inl (.int, 7, .inl fun _ => 0),
  .inl (.int, 7, .inl fun _ => 0),
  .inl (.int, 7, .inl fun _ => 0),
  .inl (.int, 7, .inl fun _ => 0),
  .inl (.int, 7, .inl fun _ => 0),
  .inl (.int, 7, .inl fun _ => 0),
  .inl (.int, 7, .inl fun _ => 0),
  .inl (.int, 7, .inl fun _ => 0),
  .inl (.int, 7, .inl fun _ => 0),
  .inl (.int, 7, .inl fun _ => 0),
  .inl (.int, 7, .inl fun _ => 0),
  .inl (.int, 7, .inl fun _ => 0),
  .inl (.int, 7, .inl fun _ => 0),
  .inl (.int, 7, .inl fun _ => 0),
  .inl (.int, 7, .inl fun _ => 0),
  .inl (.int, 7, .inl fun _ => 0),
  .inl (.int, 7, .inl fun _ => 0),
  .inl (.int, 7, .inl fun _ => 0),
  .inl (.int, 7, .inl fun _ => 0),
  .inl (.int, 7, .inl fun _ => 0),
  .inl (.int, 7, .inl fun _ => 0),
  .inl (.int, 7, .inl fun _ => 0),
  .inr (0, [.ref 43, .int 0]),
  .inl (.int, 24, .inl fun _ => 0),
  .inr (2, [.ref 45, .int 0, .int 0]),
  .inl (.object RX3, 8, .inr (.inr (.inr (.inr (va_up (va_up (va_up (va_up (va_up (va_up (va_up (va_up (fun _ => none) 0 (some 46)) 1 (some 53)) 2 (some 60)) 3 (some 67)) 4 (some 74)) 5 (some 81)) 6 (some 88)) 7 (some 95)))))),
  .inr (3, [.int 0, .int 0, .ref 47, .int 0, .ref 48, .int 0, .ref 49, .ref 50, .ref 51, .ref 52, .int 0, .int 0, .int 0, .int 0, .int 0]),
  .inl (.int, 8, .inl fun _ => 0),
  .inl (.boolean, 20, .inl fun _ => 0),
  .inl (.int, 20, .inl fun _ => 0),
  .inl (.int, 20, .inl fun _ => 0),
  .inl (.int, 20, .inl fun _ => 0),
  .inl (.int, 20, .inl fun _ => 0),
  .inr (3, [.int 0, .int 0, .ref 54, .int 0, .ref 55, .int 0, .ref 56, .ref 57, .ref 58, .ref 59, .int 0, .int 0, .int 0, .int 0, .int 0]),
  .inl (.int, 8, .inl fun _ => 0),
  .inl (.boolean, 20, .inl fun _ => 0),
  .inl (.int, 20, .inl fun _ => 0),
  .inl (.int, 20, .inl fun _ => 0),
  .inl (.int, 20, .inl fun _ => 0),
  .inl (.int, 20, .inl fun _ => 0),
  .inr (3, [.int 0, .int 0, .ref 61, .int 0, .ref 62, .int 0, .ref 63, .ref 64, .ref 65, .ref 66, .int 0, .int 0, .int 0, .int 0, .int 0]),
  .inl (.int, 8, .inl fun _ => 0),
  .inl (.boolean, 20, .inl fun _ => 0),
  .inl (.int, 20, .inl fun _ => 0),
  .inl (.int, 20, .inl fun _ => 0),
  .inl (.int, 20, .inl fun _ => 0),
  .inl (.int, 20, .inl fun _ => 0),
  .inr (3, [.int 0, .int 0, .ref 68, .int 0, .ref 69, .int 0, .ref 70, .ref 71, .ref 72, .ref 73, .int 0, .int 0, .int 0, .int 0, .int 0]),
  .inl (.int, 8, .inl fun _ => 0),
  .inl (.boolean, 20, .inl fun _ => 0),
  .inl (.int, 20, .inl fun _ => 0),
  .inl (.int, 20, .inl fun _ => 0),
  .inl (.int, 20, .inl fun _ => 0),
  .inl (.int, 20, .inl fun _ => 0),
  .inr (3, [.int 0, .int 0, .ref 75, .int 0, .ref 76, .int 0, .ref 77, .ref 78, .ref 79, .ref 80, .int 0, .int 0, .int 0, .int 0, .int 0]),
  .inl (.int, 8, .inl fun _ => 0),
  .inl (.boolean, 20, .inl fun _ => 0),
  .inl (.int, 20, .inl fun _ => 0),
  .inl (.int, 20, .inl fun _ => 0),
  .inl (.int, 20, .inl fun _ => 0),
  .inl (.int, 20, .inl fun _ => 0),
  .inr (3, [.int 0, .int 0, .ref 82, .int 0, .ref 83, .int 0, .ref 84, .ref 85, .ref 86, .ref 87, .int 0, .int 0, .int 0, .int 0, .int 0]),
  .inl (.int, 8, .inl fun _ => 0),
  .inl (.boolean, 20, .inl fun _ => 0),
  .inl (.int, 20, .inl fun _ => 0),
  .inl (.int, 20, .inl fun _ => 0),
  .inl (.int, 20, .inl fun _ => 0),
  .inl (.int, 20, .inl fun _ => 0),
  .inr (3, [.int 0, .int 0, .ref 89, .int 0, .ref 90, .int 0, .ref 91, .ref 92, .ref 93, .ref 94, .int 0, .int 0, .int 0, .int 0, .int 0]),
  .inl (.int, 8, .inl fun _ => 0),
  .inl (.boolean, 20, .inl fun _ => 0),
  .inl (.int, 20, .inl fun _ => 0),
  .inl (.int, 20, .inl fun _ => 0),
  .inl (.int, 20, .inl fun _ => 0),
  .inl (.int, 20, .inl fun _ => 0),
  .inr (3, [.int 0, .int 0, .ref 96, .int 0, .ref 97, .int 0, .ref 98, .ref 99, .ref 100, .ref 101, .int 0, .int 0, .int 0, .int 0, .int 0]),
  .inl (.int, 8, .inl fun _ => 0),
  .inl (.boolean, 20, .inl fun _ => 0),
  .inl (.int, 20, .inl fun _ => 0),
  .inl (.int, 20, .inl fun _ => 0),
  .inl (.int, 20, .inl fun _ => 0),
  .inl (.int, 20, .inl fun _ => 0),
  .inr (4, [.ref 103, .ref 108, .ref 121, .ref 128]),
  .inr (6, [.int 0, .ref 104, .ref 105, .ref 106, .int 0, .ref 107, .int 0]),
  .inl (.int, 8, .inl fun _ => 0),
  .inl (.byte, 48, .inl fun _ => 0),
  .inl (.int, 8, .inl fun _ => 0),
  .inl (.int, 3, .inl fun _ => 0),
  .inr (1, [.ref 109, .ref 110, .ref 111, .ref 112, .ref 113, .ref 114, .ref 115, .ref 116, .ref 117, .ref 118, .ref 119, .ref 120]),
  .inl (.int, 1000, .inl fun _ => 0),
  .inl (.int, 1000, .inl fun _ => 0),
  .inl (.boolean, 20, .inl fun _ => 0),
  .inl (.int, 20, .inl fun _ => 0),
  .inl (.int, 20, .inl fun _ => 0),
  .inl (.int, 20, .inl fun _ => 0),
  .inl (.int, 20, .inl fun _ => 0),
  .inl (.int, 20, .inl fun _ => 0),
  .inl (.int, 20, .inl fun _ => 0),
  .inl (.int, 20, .inl fun _ => 0),
  .inl (.int, 20, .inl fun _ => 0),
  .inl (.int, 20, .inl fun _ => 0),
  .inr (3, [.int 0, .int 0, .ref 122, .int 0, .ref 123, .int 0, .ref 124, .ref 125, .ref 126, .ref 127, .int 0, .int 0, .int 0, .int 0, .int 0]),
  .inl (.int, 8, .inl fun _ => 0),
  .inl (.boolean, 20, .inl fun _ => 0),
  .inl (.int, 20, .inl fun _ => 0),
  .inl (.int, 20, .inl fun _ => 0),
  .inl (.int, 20, .inl fun _ => 0),
  .inl (.int, 20, .inl fun _ => 0),
  .inr (3, [.int 0, .int 0, .ref 129, .int 0, .ref 130, .int 0, .ref 131, .ref 132, .ref 133, .ref 134, .int 0, .int 0, .int 0, .int 0, .int 0]),
  .inl (.int, 8, .inl fun _ => 0),
  .inl (.boolean, 20, .inl fun _ => 0),
  .inl (.int, 20, .inl fun _ => 0),
  .inl (.int, 20, .inl fun _ => 0),
  .inl (.int, 20, .inl fun _ => 0),
  .inl (.int, 20, .inl fun _ => 0)]
def hx_37 : a_H := [.inr (8, [.ref 1, .int 0, .ref 2, .int 0, .ref 3, .ref 5, .ref 10, .ref 42, .ref 44, .ref 102, .ref 103, .ref 108, .ref 121, .null, .null, .int 0]),
  .inl (.byte, 600, .inl fun _ => 0),
  .inl (.byte, 16, .inl fun _ => 0),
  .inr (7, [.ref 4, .int 0, .int 0, .int 0, .int 0, .int 0, .int (0 : Int32), .int (-1 : Int32)]),
  .inl (.byte, 0, .inl fun _ => 0),
  .inr (6, [.int 0, .ref 6, .ref 7, .ref 8, .int 0, .ref 9, .int 0]),
  .inl (.int, 8, .inl fun _ => 0),
  .inl (.byte, 48, .inl fun _ => 0),
  .inl (.int, 8, .inl fun _ => 0),
  .inl (.int, 3, .inl fun _ => 0),
  .inr (5, [.ref 11, .int 0]),
  .inl (.array .int, 30, .inr (.inr (.inr (.inr (fun i => if i < 30 then some (12 + i) else none))))),
  .inl (.int, 7, .inl fun _ => 0),
  .inl (.int, 7, .inl fun _ => 0),
  .inl (.int, 7, .inl fun _ => 0),
  .inl (.int, 7, .inl fun _ => 0),
  .inl (.int, 7, .inl fun _ => 0),
  .inl (.int, 7, .inl fun _ => 0),
  .inl (.int, 7, .inl fun _ => 0),
  .inl (.int, 7, .inl fun _ => 0),
  .inl (.int, 7, .inl fun _ => 0),
  .inl (.int, 7, .inl fun _ => 0),
  .inl (.int, 7, .inl fun _ => 0),
  .inl (.int, 7, .inl fun _ => 0),
  .inl (.int, 7, .inl fun _ => 0),
  .inl (.int, 7, .inl fun _ => 0),
  .inl (.int, 7, .inl fun _ => 0),
  .inl (.int, 7, .inl fun _ => 0),
  .inl (.int, 7, .inl fun _ => 0),
  .inl (.int, 7, .inl fun _ => 0),
  .inl (.int, 7, .inl fun _ => 0),
  .inl (.int, 7, .inl fun _ => 0),
  .inl (.int, 7, .inl fun _ => 0),
  .inl (.int, 7, .inl fun _ => 0),
  .inl (.int, 7, .inl fun _ => 0),
  .inl (.int, 7, .inl fun _ => 0),
  .inl (.int, 7, .inl fun _ => 0),
  .inl (.int, 7, .inl fun _ => 0),
  .inl (.int, 7, .inl fun _ => 0),
  .inl (.int, 7, .inl fun _ => 0),
  .inl (.int, 7, .inl fun _ => 0),
  .inl (.int, 7, .inl fun _ => 0),
  .inr (0, [.ref 43, .int 0]),
  .inl (.int, 24, .inl fun _ => 0),
  .inr (2, [.ref 45, .int 0, .int 0]),
  .inl (.object RX3, 8, .inr (.inr (.inr (.inr (va_up (va_up (va_up (va_up (va_up (va_up (va_up (va_up (fun _ => none) 0 (some 46)) 1 (some 53)) 2 (some 60)) 3 (some 67)) 4 (some 74)) 5 (some 81)) 6 (some 88)) 7 (some 95)))))),
  .inr (3, [.int 0, .int 0, .ref 47, .int 0, .ref 48, .int 0, .ref 49, .ref 50, .ref 51, .ref 52, .int 0, .int 0, .int 0, .int 0, .int 0]),
  .inl (.int, 8, .inl fun _ => 0),
  .inl (.boolean, 20, .inl fun _ => 0),
  .inl (.int, 20, .inl fun _ => 0),
  .inl (.int, 20, .inl fun _ => 0),
  .inl (.int, 20, .inl fun _ => 0),
  .inl (.int, 20, .inl fun _ => 0),
  .inr (3, [.int 0, .int 0, .ref 54, .int 0, .ref 55, .int 0, .ref 56, .ref 57, .ref 58, .ref 59, .int 0, .int 0, .int 0, .int 0, .int 0]),
  .inl (.int, 8, .inl fun _ => 0),
  .inl (.boolean, 20, .inl fun _ => 0),
  .inl (.int, 20, .inl fun _ => 0),
  .inl (.int, 20, .inl fun _ => 0),
  .inl (.int, 20, .inl fun _ => 0),
  .inl (.int, 20, .inl fun _ => 0),
  .inr (3, [.int 0, .int 0, .ref 61, .int 0, .ref 62, .int 0, .ref 63, .ref 64, .ref 65, .ref 66, .int 0, .int 0, .int 0, .int 0, .int 0]),
  .inl (.int, 8, .inl fun _ => 0),
  .inl (.boolean, 20, .inl fun _ => 0),
  .inl (.int, 20, .inl fun _ => 0),
  .inl (.int, 20, .inl fun _ => 0),
  .inl (.int, 20, .inl fun _ => 0),
  .inl (.int, 20, .inl fun _ => 0),
  .inr (3, [.int 0, .int 0, .ref 68, .int 0, .ref 69, .int 0, .ref 70, .ref 71, .ref 72, .ref 73, .int 0, .int 0, .int 0, .int 0, .int 0]),
  .inl (.int, 8, .inl fun _ => 0),
  .inl (.boolean, 20, .inl fun _ => 0),
  .inl (.int, 20, .inl fun _ => 0),
  .inl (.int, 20, .inl fun _ => 0),
  .inl (.int, 20, .inl fun _ => 0),
  .inl (.int, 20, .inl fun _ => 0),
  .inr (3, [.int 0, .int 0, .ref 75, .int 0, .ref 76, .int 0, .ref 77, .ref 78, .ref 79, .ref 80, .int 0, .int 0, .int 0, .int 0, .int 0]),
  .inl (.int, 8, .inl fun _ => 0),
  .inl (.boolean, 20, .inl fun _ => 0),
  .inl (.int, 20, .inl fun _ => 0),
  .inl (.int, 20, .inl fun _ => 0),
  .inl (.int, 20, .inl fun _ => 0),
  .inl (.int, 20, .inl fun _ => 0),
  .inr (3, [.int 0, .int 0, .ref 82, .int 0, .ref 83, .int 0, .ref 84, .ref 85, .ref 86, .ref 87, .int 0, .int 0, .int 0, .int 0, .int 0]),
  .inl (.int, 8, .inl fun _ => 0),
  .inl (.boolean, 20, .inl fun _ => 0),
  .inl (.int, 20, .inl fun _ => 0),
  .inl (.int, 20, .inl fun _ => 0),
  .inl (.int, 20, .inl fun _ => 0),
  .inl (.int, 20, .inl fun _ => 0),
  .inr (3, [.int 0, .int 0, .ref 89, .int 0, .ref 90, .int 0, .ref 91, .ref 92, .ref 93, .ref 94, .int 0, .int 0, .int 0, .int 0, .int 0]),
  .inl (.int, 8, .inl fun _ => 0),
  .inl (.boolean, 20, .inl fun _ => 0),
  .inl (.int, 20, .inl fun _ => 0),
  .inl (.int, 20, .inl fun _ => 0),
  .inl (.int, 20, .inl fun _ => 0),
  .inl (.int, 20, .inl fun _ => 0),
  .inr (3, [.int 0, .int 0, .ref 96, .int 0, .ref 97, .int 0, .ref 98, .ref 99, .ref 100, .ref 101, .int 0, .int 0, .int 0, .int 0, .int 0]),
  .inl (.int, 8, .inl fun _ => 0),
  .inl (.boolean, 20, .inl fun _ => 0),
  .inl (.int, 20, .inl fun _ => 0),
  .inl (.int, 20, .inl fun _ => 0),
  .inl (.int, 20, .inl fun _ => 0),
  .inl (.int, 20, .inl fun _ => 0),
  .inr (4, [.ref 103, .ref 108, .ref 121, .ref 128]),
  .inr (6, [.int 0, .ref 104, .ref 105, .ref 106, .int 0, .ref 107, .int 0]),
  .inl (.int, 8, .inl fun _ => 0),
  .inl (.byte, 48, .inl fun _ => 0),
  .inl (.int, 8, .inl fun _ => 0),
  .inl (.int, 3, .inl fun _ => 0),
  .inr (1, [.ref 109, .ref 110, .ref 111, .ref 112, .ref 113, .ref 114, .ref 115, .ref 116, .ref 117, .ref 118, .ref 119, .ref 120]),
  .inl (.int, 1000, .inl fun _ => 0),
  .inl (.int, 1000, .inl fun _ => 0),
  .inl (.boolean, 20, .inl fun _ => 0),
  .inl (.int, 20, .inl fun _ => 0),
  .inl (.int, 20, .inl fun _ => 0),
  .inl (.int, 20, .inl fun _ => 0),
  .inl (.int, 20, .inl fun _ => 0),
  .inl (.int, 20, .inl fun _ => 0),
  .inl (.int, 20, .inl fun _ => 0),
  .inl (.int, 20, .inl fun _ => 0),
  .inl (.int, 20, .inl fun _ => 0),
  .inl (.int, 20, .inl fun _ => 0),
  .inr (3, [.int 0, .int 0, .ref 122, .int 0, .ref 123, .int 0, .ref 124, .ref 125, .ref 126, .ref 127, .int 0, .int 0, .int 0, .int 0, .int 0]),
  .inl (.int, 8, .inl fun _ => 0),
  .inl (.boolean, 20, .inl fun _ => 0),
  .inl (.int, 20, .inl fun _ => 0),
  .inl (.int, 20, .inl fun _ => 0),
  .inl (.int, 20, .inl fun _ => 0),
  .inl (.int, 20, .inl fun _ => 0),
  .inr (3, [.int 0, .int 0, .ref 129, .int 0, .ref 130, .int 0, .ref 131, .ref 132, .ref 133, .ref 134, .int 0, .int 0, .int 0, .int 0, .int 0]),
  .inl (.int, 8, .inl fun _ => 0),
  .inl (.boolean, 20, .inl fun _ => 0),
  .inl (.int, 20, .inl fun _ => 0),
  .inl (.int, 20, .inl fun _ => 0),
  .inl (.int, 20, .inl fun _ => 0),
  .inl (.int, 20, .inl fun _ => 0),
  .inr (1, [.null, .null, .null, .null, .null, .null, .null, .null, .null, .null, .null, .null])]
def hx_38 : a_H := [.inr (8, [.ref 1, .int 0, .ref 2, .int 0, .ref 3, .ref 5, .ref 10, .ref 42, .ref 44, .ref 102, .ref 103, .ref 108, .ref 121, .null, .null, .int 0]),
  .inl (.byte, 600, .inl fun _ => 0),
  .inl (.byte, 16, .inl fun _ => 0),
  .inr (7, [.ref 4, .int 0, .int 0, .int 0, .int 0, .int 0, .int (0 : Int32), .int (-1 : Int32)]),
  .inl (.byte, 0, .inl fun _ => 0),
  .inr (6, [.int 0, .ref 6, .ref 7, .ref 8, .int 0, .ref 9, .int 0]),
  .inl (.int, 8, .inl fun _ => 0),
  .inl (.byte, 48, .inl fun _ => 0),
  .inl (.int, 8, .inl fun _ => 0),
  .inl (.int, 3, .inl fun _ => 0),
  .inr (5, [.ref 11, .int 0]),
  .inl (.array .int, 30, .inr (.inr (.inr (.inr (fun i => if i < 30 then some (12 + i) else none))))),
  .inl (.int, 7, .inl fun _ => 0),
  .inl (.int, 7, .inl fun _ => 0),
  .inl (.int, 7, .inl fun _ => 0),
  .inl (.int, 7, .inl fun _ => 0),
  .inl (.int, 7, .inl fun _ => 0),
  .inl (.int, 7, .inl fun _ => 0),
  .inl (.int, 7, .inl fun _ => 0),
  .inl (.int, 7, .inl fun _ => 0),
  .inl (.int, 7, .inl fun _ => 0),
  .inl (.int, 7, .inl fun _ => 0),
  .inl (.int, 7, .inl fun _ => 0),
  .inl (.int, 7, .inl fun _ => 0),
  .inl (.int, 7, .inl fun _ => 0),
  .inl (.int, 7, .inl fun _ => 0),
  .inl (.int, 7, .inl fun _ => 0),
  .inl (.int, 7, .inl fun _ => 0),
  .inl (.int, 7, .inl fun _ => 0),
  .inl (.int, 7, .inl fun _ => 0),
  .inl (.int, 7, .inl fun _ => 0),
  .inl (.int, 7, .inl fun _ => 0),
  .inl (.int, 7, .inl fun _ => 0),
  .inl (.int, 7, .inl fun _ => 0),
  .inl (.int, 7, .inl fun _ => 0),
  .inl (.int, 7, .inl fun _ => 0),
  .inl (.int, 7, .inl fun _ => 0),
  .inl (.int, 7, .inl fun _ => 0),
  .inl (.int, 7, .inl fun _ => 0),
  .inl (.int, 7, .inl fun _ => 0),
  .inl (.int, 7, .inl fun _ => 0),
  .inl (.int, 7, .inl fun _ => 0),
  .inr (0, [.ref 43, .int 0]),
  .inl (.int, 24, .inl fun _ => 0),
  .inr (2, [.ref 45, .int 0, .int 0]),
  .inl (.object RX3, 8, .inr (.inr (.inr (.inr (va_up (va_up (va_up (va_up (va_up (va_up (va_up (va_up (fun _ => none) 0 (some 46)) 1 (some 53)) 2 (some 60)) 3 (some 67)) 4 (some 74)) 5 (some 81)) 6 (some 88)) 7 (some 95)))))),
  .inr (3, [.int 0, .int 0, .ref 47, .int 0, .ref 48, .int 0, .ref 49, .ref 50, .ref 51, .ref 52, .int 0, .int 0, .int 0, .int 0, .int 0]),
  .inl (.int, 8, .inl fun _ => 0),
  .inl (.boolean, 20, .inl fun _ => 0),
  .inl (.int, 20, .inl fun _ => 0),
  .inl (.int, 20, .inl fun _ => 0),
  .inl (.int, 20, .inl fun _ => 0),
  .inl (.int, 20, .inl fun _ => 0),
  .inr (3, [.int 0, .int 0, .ref 54, .int 0, .ref 55, .int 0, .ref 56, .ref 57, .ref 58, .ref 59, .int 0, .int 0, .int 0, .int 0, .int 0]),
  .inl (.int, 8, .inl fun _ => 0),
  .inl (.boolean, 20, .inl fun _ => 0),
  .inl (.int, 20, .inl fun _ => 0),
  .inl (.int, 20, .inl fun _ => 0),
  .inl (.int, 20, .inl fun _ => 0),
  .inl (.int, 20, .inl fun _ => 0),
  .inr (3, [.int 0, .int 0, .ref 61, .int 0, .ref 62, .int 0, .ref 63, .ref 64, .ref 65, .ref 66, .int 0, .int 0, .int 0, .int 0, .int 0]),
  .inl (.int, 8, .inl fun _ => 0),
  .inl (.boolean, 20, .inl fun _ => 0),
  .inl (.int, 20, .inl fun _ => 0),
  .inl (.int, 20, .inl fun _ => 0),
  .inl (.int, 20, .inl fun _ => 0),
  .inl (.int, 20, .inl fun _ => 0),
  .inr (3, [.int 0, .int 0, .ref 68, .int 0, .ref 69, .int 0, .ref 70, .ref 71, .ref 72, .ref 73, .int 0, .int 0, .int 0, .int 0, .int 0]),
  .inl (.int, 8, .inl fun _ => 0),
  .inl (.boolean, 20, .inl fun _ => 0),
  .inl (.int, 20, .inl fun _ => 0),
  .inl (.int, 20, .inl fun _ => 0),
  .inl (.int, 20, .inl fun _ => 0),
  .inl (.int, 20, .inl fun _ => 0),
  .inr (3, [.int 0, .int 0, .ref 75, .int 0, .ref 76, .int 0, .ref 77, .ref 78, .ref 79, .ref 80, .int 0, .int 0, .int 0, .int 0, .int 0]),
  .inl (.int, 8, .inl fun _ => 0),
  .inl (.boolean, 20, .inl fun _ => 0),
  .inl (.int, 20, .inl fun _ => 0),
  .inl (.int, 20, .inl fun _ => 0),
  .inl (.int, 20, .inl fun _ => 0),
  .inl (.int, 20, .inl fun _ => 0),
  .inr (3, [.int 0, .int 0, .ref 82, .int 0, .ref 83, .int 0, .ref 84, .ref 85, .ref 86, .ref 87, .int 0, .int 0, .int 0, .int 0, .int 0]),
  .inl (.int, 8, .inl fun _ => 0),
  .inl (.boolean, 20, .inl fun _ => 0),
  .inl (.int, 20, .inl fun _ => 0),
  .inl (.int, 20, .inl fun _ => 0),
  .inl (.int, 20, .inl fun _ => 0),
  .inl (.int, 20, .inl fun _ => 0),
  .inr (3, [.int 0, .int 0, .ref 89, .int 0, .ref 90, .int 0, .ref 91, .ref 92, .ref 93, .ref 94, .int 0, .int 0, .int 0, .int 0, .int 0]),
  .inl (.int, 8, .inl fun _ => 0),
  .inl (.boolean, 20, .inl fun _ => 0),
  .inl (.int, 20, .inl fun _ => 0),
  .inl (.int, 20, .inl fun _ => 0),
  .inl (.int, 20, .inl fun _ => 0),
  .inl (.int, 20, .inl fun _ => 0),
  .inr (3, [.int 0, .int 0, .ref 96, .int 0, .ref 97, .int 0, .ref 98, .ref 99, .ref 100, .ref 101, .int 0, .int 0, .int 0, .int 0, .int 0]),
  .inl (.int, 8, .inl fun _ => 0),
  .inl (.boolean, 20, .inl fun _ => 0),
  .inl (.int, 20, .inl fun _ => 0),
  .inl (.int, 20, .inl fun _ => 0),
  .inl (.int, 20, .inl fun _ => 0),
  .inl (.int, 20, .inl fun _ => 0),
  .inr (4, [.ref 103, .ref 108, .ref 121, .ref 128]),
  .inr (6, [.int 0, .ref 104, .ref 105, .ref 106, .int 0, .ref 107, .int 0]),
  .inl (.int, 8, .inl fun _ => 0),
  .inl (.byte, 48, .inl fun _ => 0),
  .inl (.int, 8, .inl fun _ => 0),
  .inl (.int, 3, .inl fun _ => 0),
  .inr (1, [.ref 109, .ref 110, .ref 111, .ref 112, .ref 113, .ref 114, .ref 115, .ref 116, .ref 117, .ref 118, .ref 119, .ref 120]),
  .inl (.int, 1000, .inl fun _ => 0),
  .inl (.int, 1000, .inl fun _ => 0),
  .inl (.boolean, 20, .inl fun _ => 0),
  .inl (.int, 20, .inl fun _ => 0),
  .inl (.int, 20, .inl fun _ => 0),
  .inl (.int, 20, .inl fun _ => 0),
  .inl (.int, 20, .inl fun _ => 0),
  .inl (.int, 20, .inl fun _ => 0),
  .inl (.int, 20, .inl fun _ => 0),
  .inl (.int, 20, .inl fun _ => 0),
  .inl (.int, 20, .inl fun _ => 0),
  .inl (.int, 20, .inl fun _ => 0),
  .inr (3, [.int 0, .int 0, .ref 122, .int 0, .ref 123, .int 0, .ref 124, .ref 125, .ref 126, .ref 127, .int 0, .int 0, .int 0, .int 0, .int 0]),
  .inl (.int, 8, .inl fun _ => 0),
  .inl (.boolean, 20, .inl fun _ => 0),
  .inl (.int, 20, .inl fun _ => 0),
  .inl (.int, 20, .inl fun _ => 0),
  .inl (.int, 20, .inl fun _ => 0),
  .inl (.int, 20, .inl fun _ => 0),
  .inr (3, [.int 0, .int 0, .ref 129, .int 0, .ref 130, .int 0, .ref 131, .ref 132, .ref 133, .ref 134, .int 0, .int 0, .int 0, .int 0, .int 0]),
  .inl (.int, 8, .inl fun _ => 0),
  .inl (.boolean, 20, .inl fun _ => 0),
  .inl (.int, 20, .inl fun _ => 0),
  .inl (.int, 20, .inl fun _ => 0),
  .inl (.int, 20, .inl fun _ => 0),
  .inl (.int, 20, .inl fun _ => 0),
  .inr (1, [.ref 136, .ref 137, .ref 138, .ref 139, .ref 140, .ref 141, .ref 142, .ref 143, .ref 144, .ref 145, .ref 146, .ref 147]),
  .inl (.int, 1000, .inl fun _ => 0),
  .inl (.int, 1000, .inl fun _ => 0),
  .inl (.boolean, 20, .inl fun _ => 0),
  .inl (.int, 20, .inl fun _ => 0),
  .inl (.int, 20, .inl fun _ => 0),
  .inl (.int, 20, .inl fun _ => 0),
  .inl (.int, 20, .inl fun _ => 0),
  .inl (.int, 20, .inl fun _ => 0),
  .inl (.int, 20, .inl fun _ => 0),
  .inl (.int, 20, .inl fun _ => 0),
  .inl (.int, 20, .inl fun _ => 0),
  .inl (.int, 20, .inl fun _ => 0)]
def hx_39 : a_H := [.inr (8, [.ref 1, .int 0, .ref 2, .int 0, .ref 3, .ref 5, .ref 10, .ref 42, .ref 44, .ref 102, .ref 103, .ref 108, .ref 121, .ref 135, .null, .int 0]),
  .inl (.byte, 600, .inl fun _ => 0),
  .inl (.byte, 16, .inl fun _ => 0),
  .inr (7, [.ref 4, .int 0, .int 0, .int 0, .int 0, .int 0, .int (0 : Int32), .int (-1 : Int32)]),
  .inl (.byte, 0, .inl fun _ => 0),
  .inr (6, [.int 0, .ref 6, .ref 7, .ref 8, .int 0, .ref 9, .int 0]),
  .inl (.int, 8, .inl fun _ => 0),
  .inl (.byte, 48, .inl fun _ => 0),
  .inl (.int, 8, .inl fun _ => 0),
  .inl (.int, 3, .inl fun _ => 0),
  .inr (5, [.ref 11, .int 0]),
  .inl (.array .int, 30, .inr (.inr (.inr (.inr (fun i => if i < 30 then some (12 + i) else none))))),
  .inl (.int, 7, .inl fun _ => 0),
  .inl (.int, 7, .inl fun _ => 0),
  .inl (.int, 7, .inl fun _ => 0),
  .inl (.int, 7, .inl fun _ => 0),
  .inl (.int, 7, .inl fun _ => 0),
  .inl (.int, 7, .inl fun _ => 0),
  .inl (.int, 7, .inl fun _ => 0),
  .inl (.int, 7, .inl fun _ => 0),
  .inl (.int, 7, .inl fun _ => 0),
  .inl (.int, 7, .inl fun _ => 0),
  .inl (.int, 7, .inl fun _ => 0),
  .inl (.int, 7, .inl fun _ => 0),
  .inl (.int, 7, .inl fun _ => 0),
  .inl (.int, 7, .inl fun _ => 0),
  .inl (.int, 7, .inl fun _ => 0),
  .inl (.int, 7, .inl fun _ => 0),
  .inl (.int, 7, .inl fun _ => 0),
  .inl (.int, 7, .inl fun _ => 0),
  .inl (.int, 7, .inl fun _ => 0),
  .inl (.int, 7, .inl fun _ => 0),
  .inl (.int, 7, .inl fun _ => 0),
  .inl (.int, 7, .inl fun _ => 0),
  .inl (.int, 7, .inl fun _ => 0),
  .inl (.int, 7, .inl fun _ => 0),
  .inl (.int, 7, .inl fun _ => 0),
  .inl (.int, 7, .inl fun _ => 0),
  .inl (.int, 7, .inl fun _ => 0),
  .inl (.int, 7, .inl fun _ => 0),
  .inl (.int, 7, .inl fun _ => 0),
  .inl (.int, 7, .inl fun _ => 0),
  .inr (0, [.ref 43, .int 0]),
  .inl (.int, 24, .inl fun _ => 0),
  .inr (2, [.ref 45, .int 0, .int 0]),
  .inl (.object RX3, 8, .inr (.inr (.inr (.inr (va_up (va_up (va_up (va_up (va_up (va_up (va_up (va_up (fun _ => none) 0 (some 46)) 1 (some 53)) 2 (some 60)) 3 (some 67)) 4 (some 74)) 5 (some 81)) 6 (some 88)) 7 (some 95)))))),
  .inr (3, [.int 0, .int 0, .ref 47, .int 0, .ref 48, .int 0, .ref 49, .ref 50, .ref 51, .ref 52, .int 0, .int 0, .int 0, .int 0, .int 0]),
  .inl (.int, 8, .inl fun _ => 0),
  .inl (.boolean, 20, .inl fun _ => 0),
  .inl (.int, 20, .inl fun _ => 0),
  .inl (.int, 20, .inl fun _ => 0),
  .inl (.int, 20, .inl fun _ => 0),
  .inl (.int, 20, .inl fun _ => 0),
  .inr (3, [.int 0, .int 0, .ref 54, .int 0, .ref 55, .int 0, .ref 56, .ref 57, .ref 58, .ref 59, .int 0, .int 0, .int 0, .int 0, .int 0]),
  .inl (.int, 8, .inl fun _ => 0),
  .inl (.boolean, 20, .inl fun _ => 0),
  .inl (.int, 20, .inl fun _ => 0),
  .inl (.int, 20, .inl fun _ => 0),
  .inl (.int, 20, .inl fun _ => 0),
  .inl (.int, 20, .inl fun _ => 0),
  .inr (3, [.int 0, .int 0, .ref 61, .int 0, .ref 62, .int 0, .ref 63, .ref 64, .ref 65, .ref 66, .int 0, .int 0, .int 0, .int 0, .int 0]),
  .inl (.int, 8, .inl fun _ => 0),
  .inl (.boolean, 20, .inl fun _ => 0),
  .inl (.int, 20, .inl fun _ => 0),
  .inl (.int, 20, .inl fun _ => 0),
  .inl (.int, 20, .inl fun _ => 0),
  .inl (.int, 20, .inl fun _ => 0),
  .inr (3, [.int 0, .int 0, .ref 68, .int 0, .ref 69, .int 0, .ref 70, .ref 71, .ref 72, .ref 73, .int 0, .int 0, .int 0, .int 0, .int 0]),
  .inl (.int, 8, .inl fun _ => 0),
  .inl (.boolean, 20, .inl fun _ => 0),
  .inl (.int, 20, .inl fun _ => 0),
  .inl (.int, 20, .inl fun _ => 0),
  .inl (.int, 20, .inl fun _ => 0),
  .inl (.int, 20, .inl fun _ => 0),
  .inr (3, [.int 0, .int 0, .ref 75, .int 0, .ref 76, .int 0, .ref 77, .ref 78, .ref 79, .ref 80, .int 0, .int 0, .int 0, .int 0, .int 0]),
  .inl (.int, 8, .inl fun _ => 0),
  .inl (.boolean, 20, .inl fun _ => 0),
  .inl (.int, 20, .inl fun _ => 0),
  .inl (.int, 20, .inl fun _ => 0),
  .inl (.int, 20, .inl fun _ => 0),
  .inl (.int, 20, .inl fun _ => 0),
  .inr (3, [.int 0, .int 0, .ref 82, .int 0, .ref 83, .int 0, .ref 84, .ref 85, .ref 86, .ref 87, .int 0, .int 0, .int 0, .int 0, .int 0]),
  .inl (.int, 8, .inl fun _ => 0),
  .inl (.boolean, 20, .inl fun _ => 0),
  .inl (.int, 20, .inl fun _ => 0),
  .inl (.int, 20, .inl fun _ => 0),
  .inl (.int, 20, .inl fun _ => 0),
  .inl (.int, 20, .inl fun _ => 0),
  .inr (3, [.int 0, .int 0, .ref 89, .int 0, .ref 90, .int 0, .ref 91, .ref 92, .ref 93, .ref 94, .int 0, .int 0, .int 0, .int 0, .int 0]),
  .inl (.int, 8, .inl fun _ => 0),
  .inl (.boolean, 20, .inl fun _ => 0),
  .inl (.int, 20, .inl fun _ => 0),
  .inl (.int, 20, .inl fun _ => 0),
  .inl (.int, 20, .inl fun _ => 0),
  .inl (.int, 20, .inl fun _ => 0),
  .inr (3, [.int 0, .int 0, .ref 96, .int 0, .ref 97, .int 0, .ref 98, .ref 99, .ref 100, .ref 101, .int 0, .int 0, .int 0, .int 0, .int 0]),
  .inl (.int, 8, .inl fun _ => 0),
  .inl (.boolean, 20, .inl fun _ => 0),
  .inl (.int, 20, .inl fun _ => 0),
  .inl (.int, 20, .inl fun _ => 0),
  .inl (.int, 20, .inl fun _ => 0),
  .inl (.int, 20, .inl fun _ => 0),
  .inr (4, [.ref 103, .ref 108, .ref 121, .ref 128]),
  .inr (6, [.int 0, .ref 104, .ref 105, .ref 106, .int 0, .ref 107, .int 0]),
  .inl (.int, 8, .inl fun _ => 0),
  .inl (.byte, 48, .inl fun _ => 0),
  .inl (.int, 8, .inl fun _ => 0),
  .inl (.int, 3, .inl fun _ => 0),
  .inr (1, [.ref 109, .ref 110, .ref 111, .ref 112, .ref 113, .ref 114, .ref 115, .ref 116, .ref 117, .ref 118, .ref 119, .ref 120]),
  .inl (.int, 1000, .inl fun _ => 0),
  .inl (.int, 1000, .inl fun _ => 0),
  .inl (.boolean, 20, .inl fun _ => 0),
  .inl (.int, 20, .inl fun _ => 0),
  .inl (.int, 20, .inl fun _ => 0),
  .inl (.int, 20, .inl fun _ => 0),
  .inl (.int, 20, .inl fun _ => 0),
  .inl (.int, 20, .inl fun _ => 0),
  .inl (.int, 20, .inl fun _ => 0),
  .inl (.int, 20, .inl fun _ => 0),
  .inl (.int, 20, .inl fun _ => 0),
  .inl (.int, 20, .inl fun _ => 0),
  .inr (3, [.int 0, .int 0, .ref 122, .int 0, .ref 123, .int 0, .ref 124, .ref 125, .ref 126, .ref 127, .int 0, .int 0, .int 0, .int 0, .int 0]),
  .inl (.int, 8, .inl fun _ => 0),
  .inl (.boolean, 20, .inl fun _ => 0),
  .inl (.int, 20, .inl fun _ => 0),
  .inl (.int, 20, .inl fun _ => 0),
  .inl (.int, 20, .inl fun _ => 0),
  .inl (.int, 20, .inl fun _ => 0),
  .inr (3, [.int 0, .int 0, .ref 129, .int 0, .ref 130, .int 0, .ref 131, .ref 132, .ref 133, .ref 134, .int 0, .int 0, .int 0, .int 0, .int 0]),
  .inl (.int, 8, .inl fun _ => 0),
  .inl (.boolean, 20, .inl fun _ => 0),
  .inl (.int, 20, .inl fun _ => 0),
  .inl (.int, 20, .inl fun _ => 0),
  .inl (.int, 20, .inl fun _ => 0),
  .inl (.int, 20, .inl fun _ => 0),
  .inr (1, [.ref 136, .ref 137, .ref 138, .ref 139, .ref 140, .ref 141, .ref 142, .ref 143, .ref 144, .ref 145, .ref 146, .ref 147]),
  .inl (.int, 1000, .inl fun _ => 0),
  .inl (.int, 1000, .inl fun _ => 0),
  .inl (.boolean, 20, .inl fun _ => 0),
  .inl (.int, 20, .inl fun _ => 0),
  .inl (.int, 20, .inl fun _ => 0),
  .inl (.int, 20, .inl fun _ => 0),
  .inl (.int, 20, .inl fun _ => 0),
  .inl (.int, 20, .inl fun _ => 0),
  .inl (.int, 20, .inl fun _ => 0),
  .inl (.int, 20, .inl fun _ => 0),
  .inl (.int, 20, .inl fun _ => 0),
  .inl (.int, 20, .inl fun _ => 0),
  .inr (3, [.int 0, .int 0, .null, .int 0, .null, .int 0, .null, .null, .null, .null, .int 0, .int 0, .int 0, .int 0, .int 0])]
def hx_40 : a_H := [.inr (8, [.ref 1, .int 0, .ref 2, .int 0, .ref 3, .ref 5, .ref 10, .ref 42, .ref 44, .ref 102, .ref 103, .ref 108, .ref 121, .ref 135, .null, .int 0]),
  .inl (.byte, 600, .inl fun _ => 0),
  .inl (.byte, 16, .inl fun _ => 0),
  .inr (7, [.ref 4, .int 0, .int 0, .int 0, .int 0, .int 0, .int (0 : Int32), .int (-1 : Int32)]),
  .inl (.byte, 0, .inl fun _ => 0),
  .inr (6, [.int 0, .ref 6, .ref 7, .ref 8, .int 0, .ref 9, .int 0]),
  .inl (.int, 8, .inl fun _ => 0),
  .inl (.byte, 48, .inl fun _ => 0),
  .inl (.int, 8, .inl fun _ => 0),
  .inl (.int, 3, .inl fun _ => 0),
  .inr (5, [.ref 11, .int 0]),
  .inl (.array .int, 30, .inr (.inr (.inr (.inr (fun i => if i < 30 then some (12 + i) else none))))),
  .inl (.int, 7, .inl fun _ => 0),
  .inl (.int, 7, .inl fun _ => 0),
  .inl (.int, 7, .inl fun _ => 0),
  .inl (.int, 7, .inl fun _ => 0),
  .inl (.int, 7, .inl fun _ => 0),
  .inl (.int, 7, .inl fun _ => 0),
  .inl (.int, 7, .inl fun _ => 0),
  .inl (.int, 7, .inl fun _ => 0),
  .inl (.int, 7, .inl fun _ => 0),
  .inl (.int, 7, .inl fun _ => 0),
  .inl (.int, 7, .inl fun _ => 0),
  .inl (.int, 7, .inl fun _ => 0),
  .inl (.int, 7, .inl fun _ => 0),
  .inl (.int, 7, .inl fun _ => 0),
  .inl (.int, 7, .inl fun _ => 0),
  .inl (.int, 7, .inl fun _ => 0),
  .inl (.int, 7, .inl fun _ => 0),
  .inl (.int, 7, .inl fun _ => 0),
  .inl (.int, 7, .inl fun _ => 0),
  .inl (.int, 7, .inl fun _ => 0),
  .inl (.int, 7, .inl fun _ => 0),
  .inl (.int, 7, .inl fun _ => 0),
  .inl (.int, 7, .inl fun _ => 0),
  .inl (.int, 7, .inl fun _ => 0),
  .inl (.int, 7, .inl fun _ => 0),
  .inl (.int, 7, .inl fun _ => 0),
  .inl (.int, 7, .inl fun _ => 0),
  .inl (.int, 7, .inl fun _ => 0),
  .inl (.int, 7, .inl fun _ => 0),
  .inl (.int, 7, .inl fun _ => 0),
  .inr (0, [.ref 43, .int 0]),
  .inl (.int, 24, .inl fun _ => 0),
  .inr (2, [.ref 45, .int 0, .int 0]),
  .inl (.object RX3, 8, .inr (.inr (.inr (.inr (va_up (va_up (va_up (va_up (va_up (va_up (va_up (va_up (fun _ => none) 0 (some 46)) 1 (some 53)) 2 (some 60)) 3 (some 67)) 4 (some 74)) 5 (some 81)) 6 (some 88)) 7 (some 95)))))),
  .inr (3, [.int 0, .int 0, .ref 47, .int 0, .ref 48, .int 0, .ref 49, .ref 50, .ref 51, .ref 52, .int 0, .int 0, .int 0, .int 0, .int 0]),
  .inl (.int, 8, .inl fun _ => 0),
  .inl (.boolean, 20, .inl fun _ => 0),
  .inl (.int, 20, .inl fun _ => 0),
  .inl (.int, 20, .inl fun _ => 0),
  .inl (.int, 20, .inl fun _ => 0),
  .inl (.int, 20, .inl fun _ => 0),
  .inr (3, [.int 0, .int 0, .ref 54, .int 0, .ref 55, .int 0, .ref 56, .ref 57, .ref 58, .ref 59, .int 0, .int 0, .int 0, .int 0, .int 0]),
  .inl (.int, 8, .inl fun _ => 0),
  .inl (.boolean, 20, .inl fun _ => 0),
  .inl (.int, 20, .inl fun _ => 0),
  .inl (.int, 20, .inl fun _ => 0),
  .inl (.int, 20, .inl fun _ => 0),
  .inl (.int, 20, .inl fun _ => 0),
  .inr (3, [.int 0, .int 0, .ref 61, .int 0, .ref 62, .int 0, .ref 63, .ref 64, .ref 65, .ref 66, .int 0, .int 0, .int 0, .int 0, .int 0]),
  .inl (.int, 8, .inl fun _ => 0),
  .inl (.boolean, 20, .inl fun _ => 0),
  .inl (.int, 20, .inl fun _ => 0),
  .inl (.int, 20, .inl fun _ => 0),
  .inl (.int, 20, .inl fun _ => 0),
  .inl (.int, 20, .inl fun _ => 0),
  .inr (3, [.int 0, .int 0, .ref 68, .int 0, .ref 69, .int 0, .ref 70, .ref 71, .ref 72, .ref 73, .int 0, .int 0, .int 0, .int 0, .int 0]),
  .inl (.int, 8, .inl fun _ => 0),
  .inl (.boolean, 20, .inl fun _ => 0),
  .inl (.int, 20, .inl fun _ => 0),
  .inl (.int, 20, .inl fun _ => 0),
  .inl (.int, 20, .inl fun _ => 0),
  .inl (.int, 20, .inl fun _ => 0),
  .inr (3, [.int 0, .int 0, .ref 75, .int 0, .ref 76, .int 0, .ref 77, .ref 78, .ref 79, .ref 80, .int 0, .int 0, .int 0, .int 0, .int 0]),
  .inl (.int, 8, .inl fun _ => 0),
  .inl (.boolean, 20, .inl fun _ => 0),
  .inl (.int, 20, .inl fun _ => 0),
  .inl (.int, 20, .inl fun _ => 0),
  .inl (.int, 20, .inl fun _ => 0),
  .inl (.int, 20, .inl fun _ => 0),
  .inr (3, [.int 0, .int 0, .ref 82, .int 0, .ref 83, .int 0, .ref 84, .ref 85, .ref 86, .ref 87, .int 0, .int 0, .int 0, .int 0, .int 0]),
  .inl (.int, 8, .inl fun _ => 0),
  .inl (.boolean, 20, .inl fun _ => 0),
  .inl (.int, 20, .inl fun _ => 0),
  .inl (.int, 20, .inl fun _ => 0),
  .inl (.int, 20, .inl fun _ => 0),
  .inl (.int, 20, .inl fun _ => 0),
  .inr (3, [.int 0, .int 0, .ref 89, .int 0, .ref 90, .int 0, .ref 91, .ref 92, .ref 93, .ref 94, .int 0, .int 0, .int 0, .int 0, .int 0]),
  .inl (.int, 8, .inl fun _ => 0),
  .inl (.boolean, 20, .inl fun _ => 0),
  .inl (.int, 20, .inl fun _ => 0),
  .inl (.int, 20, .inl fun _ => 0),
  .inl (.int, 20, .inl fun _ => 0),
  .inl (.int, 20, .inl fun _ => 0),
  .inr (3, [.int 0, .int 0, .ref 96, .int 0, .ref 97, .int 0, .ref 98, .ref 99, .ref 100, .ref 101, .int 0, .int 0, .int 0, .int 0, .int 0]),
  .inl (.int, 8, .inl fun _ => 0),
  .inl (.boolean, 20, .inl fun _ => 0),
  .inl (.int, 20, .inl fun _ => 0),
  .inl (.int, 20, .inl fun _ => 0),
  .inl (.int, 20, .inl fun _ => 0),
  .inl (.int, 20, .inl fun _ => 0),
  .inr (4, [.ref 103, .ref 108, .ref 121, .ref 128]),
  .inr (6, [.int 0, .ref 104, .ref 105, .ref 106, .int 0, .ref 107, .int 0]),
  .inl (.int, 8, .inl fun _ => 0),
  .inl (.byte, 48, .inl fun _ => 0),
  .inl (.int, 8, .inl fun _ => 0),
  .inl (.int, 3, .inl fun _ => 0),
  .inr (1, [.ref 109, .ref 110, .ref 111, .ref 112, .ref 113, .ref 114, .ref 115, .ref 116, .ref 117, .ref 118, .ref 119, .ref 120]),
  .inl (.int, 1000, .inl fun _ => 0),
  .inl (.int, 1000, .inl fun _ => 0),
  .inl (.boolean, 20, .inl fun _ => 0),
  .inl (.int, 20, .inl fun _ => 0),
  .inl (.int, 20, .inl fun _ => 0),
  .inl (.int, 20, .inl fun _ => 0),
  .inl (.int, 20, .inl fun _ => 0),
  .inl (.int, 20, .inl fun _ => 0),
  .inl (.int, 20, .inl fun _ => 0),
  .inl (.int, 20, .inl fun _ => 0),
  .inl (.int, 20, .inl fun _ => 0),
  .inl (.int, 20, .inl fun _ => 0),
  .inr (3, [.int 0, .int 0, .ref 122, .int 0, .ref 123, .int 0, .ref 124, .ref 125, .ref 126, .ref 127, .int 0, .int 0, .int 0, .int 0, .int 0]),
  .inl (.int, 8, .inl fun _ => 0),
  .inl (.boolean, 20, .inl fun _ => 0),
  .inl (.int, 20, .inl fun _ => 0),
  .inl (.int, 20, .inl fun _ => 0),
  .inl (.int, 20, .inl fun _ => 0),
  .inl (.int, 20, .inl fun _ => 0),
  .inr (3, [.int 0, .int 0, .ref 129, .int 0, .ref 130, .int 0, .ref 131, .ref 132, .ref 133, .ref 134, .int 0, .int 0, .int 0, .int 0, .int 0]),
  .inl (.int, 8, .inl fun _ => 0),
  .inl (.boolean, 20, .inl fun _ => 0),
  .inl (.int, 20, .inl fun _ => 0),
  .inl (.int, 20, .inl fun _ => 0),
  .inl (.int, 20, .inl fun _ => 0),
  .inl (.int, 20, .inl fun _ => 0),
  .inr (1, [.ref 136, .ref 137, .ref 138, .ref 139, .ref 140, .ref 141, .ref 142, .ref 143, .ref 144, .ref 145, .ref 146, .ref 147]),
  .inl (.int, 1000, .inl fun _ => 0),
  .inl (.int, 1000, .inl fun _ => 0),
  .inl (.boolean, 20, .inl fun _ => 0),
  .inl (.int, 20, .inl fun _ => 0),
  .inl (.int, 20, .inl fun _ => 0),
  .inl (.int, 20, .inl fun _ => 0),
  .inl (.int, 20, .inl fun _ => 0),
  .inl (.int, 20, .inl fun _ => 0),
  .inl (.int, 20, .inl fun _ => 0),
  .inl (.int, 20, .inl fun _ => 0),
  .inl (.int, 20, .inl fun _ => 0),
  .inl (.int, 20, .inl fun _ => 0),
  .inr (3, [.int 0, .int 0, .ref 149, .int 0, .ref 150, .int 0, .ref 151, .ref 152, .ref 153, .ref 154, .int 0, .int 0, .int 0, .int 0, .int 0]),
  .inl (.int, 8, .inl fun _ => 0),
  .inl (.boolean, 20, .inl fun _ => 0),
  .inl (.int, 20, .inl fun _ => 0),
  .inl (.int, 20, .inl fun _ => 0),
  .inl (.int, 20, .inl fun _ => 0),
  .inl (.int, 20, .inl fun _ => 0)]
def hx_41 : a_H := [.inr (8, [.ref 1, .int 0, .ref 2, .int 0, .ref 3, .ref 5, .ref 10, .ref 42, .ref 44, .ref 102, .ref 103, .ref 108, .ref 121, .ref 135, .ref 148, .int 0]),
  .inl (.byte, 600, .inl fun _ => 0),
  .inl (.byte, 16, .inl fun _ => 0),
  .inr (7, [.ref 4, .int 0, .int 0, .int 0, .int 0, .int 0, .int (0 : Int32), .int (-1 : Int32)]),
  .inl (.byte, 0, .inl fun _ => 0),
  .inr (6, [.int 0, .ref 6, .ref 7, .ref 8, .int 0, .ref 9, .int 0]),
  .inl (.int, 8, .inl fun _ => 0),
  .inl (.byte, 48, .inl fun _ => 0),
  .inl (.int, 8, .inl fun _ => 0),
  .inl (.int, 3, .inl fun _ => 0),
  .inr (5, [.ref 11, .int 0]),
  .inl (.array .int, 30, .inr (.inr (.inr (.inr (fun i => if i < 30 then some (12 + i) else none))))),
  .inl (.int, 7, .inl fun _ => 0),
  .inl (.int, 7, .inl fun _ => 0),
  .inl (.int, 7, .inl fun _ => 0),
  .inl (.int, 7, .inl fun _ => 0),
  .inl (.int, 7, .inl fun _ => 0),
  .inl (.int, 7, .inl fun _ => 0),
  .inl (.int, 7, .inl fun _ => 0),
  .inl (.int, 7, .inl fun _ => 0),
  .inl (.int, 7, .inl fun _ => 0),
  .inl (.int, 7, .inl fun _ => 0),
  .inl (.int, 7, .inl fun _ => 0),
  .inl (.int, 7, .inl fun _ => 0),
  .inl (.int, 7, .inl fun _ => 0),
  .inl (.int, 7, .inl fun _ => 0),
  .inl (.int, 7, .inl fun _ => 0),
  .inl (.int, 7, .inl fun _ => 0),
  .inl (.int, 7, .inl fun _ => 0),
  .inl (.int, 7, .inl fun _ => 0),
  .inl (.int, 7, .inl fun _ => 0),
  .inl (.int, 7, .inl fun _ => 0),
  .inl (.int, 7, .inl fun _ => 0),
  .inl (.int, 7, .inl fun _ => 0),
  .inl (.int, 7, .inl fun _ => 0),
  .inl (.int, 7, .inl fun _ => 0),
  .inl (.int, 7, .inl fun _ => 0),
  .inl (.int, 7, .inl fun _ => 0),
  .inl (.int, 7, .inl fun _ => 0),
  .inl (.int, 7, .inl fun _ => 0),
  .inl (.int, 7, .inl fun _ => 0),
  .inl (.int, 7, .inl fun _ => 0),
  .inr (0, [.ref 43, .int 0]),
  .inl (.int, 24, .inl fun _ => 0),
  .inr (2, [.ref 45, .int 0, .int 0]),
  .inl (.object RX3, 8, .inr (.inr (.inr (.inr (va_up (va_up (va_up (va_up (va_up (va_up (va_up (va_up (fun _ => none) 0 (some 46)) 1 (some 53)) 2 (some 60)) 3 (some 67)) 4 (some 74)) 5 (some 81)) 6 (some 88)) 7 (some 95)))))),
  .inr (3, [.int 0, .int 0, .ref 47, .int 0, .ref 48, .int 0, .ref 49, .ref 50, .ref 51, .ref 52, .int 0, .int 0, .int 0, .int 0, .int 0]),
  .inl (.int, 8, .inl fun _ => 0),
  .inl (.boolean, 20, .inl fun _ => 0),
  .inl (.int, 20, .inl fun _ => 0),
  .inl (.int, 20, .inl fun _ => 0),
  .inl (.int, 20, .inl fun _ => 0),
  .inl (.int, 20, .inl fun _ => 0),
  .inr (3, [.int 0, .int 0, .ref 54, .int 0, .ref 55, .int 0, .ref 56, .ref 57, .ref 58, .ref 59, .int 0, .int 0, .int 0, .int 0, .int 0]),
  .inl (.int, 8, .inl fun _ => 0),
  .inl (.boolean, 20, .inl fun _ => 0),
  .inl (.int, 20, .inl fun _ => 0),
  .inl (.int, 20, .inl fun _ => 0),
  .inl (.int, 20, .inl fun _ => 0),
  .inl (.int, 20, .inl fun _ => 0),
  .inr (3, [.int 0, .int 0, .ref 61, .int 0, .ref 62, .int 0, .ref 63, .ref 64, .ref 65, .ref 66, .int 0, .int 0, .int 0, .int 0, .int 0]),
  .inl (.int, 8, .inl fun _ => 0),
  .inl (.boolean, 20, .inl fun _ => 0),
  .inl (.int, 20, .inl fun _ => 0),
  .inl (.int, 20, .inl fun _ => 0),
  .inl (.int, 20, .inl fun _ => 0),
  .inl (.int, 20, .inl fun _ => 0),
  .inr (3, [.int 0, .int 0, .ref 68, .int 0, .ref 69, .int 0, .ref 70, .ref 71, .ref 72, .ref 73, .int 0, .int 0, .int 0, .int 0, .int 0]),
  .inl (.int, 8, .inl fun _ => 0),
  .inl (.boolean, 20, .inl fun _ => 0),
  .inl (.int, 20, .inl fun _ => 0),
  .inl (.int, 20, .inl fun _ => 0),
  .inl (.int, 20, .inl fun _ => 0),
  .inl (.int, 20, .inl fun _ => 0),
  .inr (3, [.int 0, .int 0, .ref 75, .int 0, .ref 76, .int 0, .ref 77, .ref 78, .ref 79, .ref 80, .int 0, .int 0, .int 0, .int 0, .int 0]),
  .inl (.int, 8, .inl fun _ => 0),
  .inl (.boolean, 20, .inl fun _ => 0),
  .inl (.int, 20, .inl fun _ => 0),
  .inl (.int, 20, .inl fun _ => 0),
  .inl (.int, 20, .inl fun _ => 0),
  .inl (.int, 20, .inl fun _ => 0),
  .inr (3, [.int 0, .int 0, .ref 82, .int 0, .ref 83, .int 0, .ref 84, .ref 85, .ref 86, .ref 87, .int 0, .int 0, .int 0, .int 0, .int 0]),
  .inl (.int, 8, .inl fun _ => 0),
  .inl (.boolean, 20, .inl fun _ => 0),
  .inl (.int, 20, .inl fun _ => 0),
  .inl (.int, 20, .inl fun _ => 0),
  .inl (.int, 20, .inl fun _ => 0),
  .inl (.int, 20, .inl fun _ => 0),
  .inr (3, [.int 0, .int 0, .ref 89, .int 0, .ref 90, .int 0, .ref 91, .ref 92, .ref 93, .ref 94, .int 0, .int 0, .int 0, .int 0, .int 0]),
  .inl (.int, 8, .inl fun _ => 0),
  .inl (.boolean, 20, .inl fun _ => 0),
  .inl (.int, 20, .inl fun _ => 0),
  .inl (.int, 20, .inl fun _ => 0),
  .inl (.int, 20, .inl fun _ => 0),
  .inl (.int, 20, .inl fun _ => 0),
  .inr (3, [.int 0, .int 0, .ref 96, .int 0, .ref 97, .int 0, .ref 98, .ref 99, .ref 100, .ref 101, .int 0, .int 0, .int 0, .int 0, .int 0]),
  .inl (.int, 8, .inl fun _ => 0),
  .inl (.boolean, 20, .inl fun _ => 0),
  .inl (.int, 20, .inl fun _ => 0),
  .inl (.int, 20, .inl fun _ => 0),
  .inl (.int, 20, .inl fun _ => 0),
  .inl (.int, 20, .inl fun _ => 0),
  .inr (4, [.ref 103, .ref 108, .ref 121, .ref 128]),
  .inr (6, [.int 0, .ref 104, .ref 105, .ref 106, .int 0, .ref 107, .int 0]),
  .inl (.int, 8, .inl fun _ => 0),
  .inl (.byte, 48, .inl fun _ => 0),
  .inl (.int, 8, .inl fun _ => 0),
  .inl (.int, 3, .inl fun _ => 0),
  .inr (1, [.ref 109, .ref 110, .ref 111, .ref 112, .ref 113, .ref 114, .ref 115, .ref 116, .ref 117, .ref 118, .ref 119, .ref 120]),
  .inl (.int, 1000, .inl fun _ => 0),
  .inl (.int, 1000, .inl fun _ => 0),
  .inl (.boolean, 20, .inl fun _ => 0),
  .inl (.int, 20, .inl fun _ => 0),
  .inl (.int, 20, .inl fun _ => 0),
  .inl (.int, 20, .inl fun _ => 0),
  .inl (.int, 20, .inl fun _ => 0),
  .inl (.int, 20, .inl fun _ => 0),
  .inl (.int, 20, .inl fun _ => 0),
  .inl (.int, 20, .inl fun _ => 0),
  .inl (.int, 20, .inl fun _ => 0),
  .inl (.int, 20, .inl fun _ => 0),
  .inr (3, [.int 0, .int 0, .ref 122, .int 0, .ref 123, .int 0, .ref 124, .ref 125, .ref 126, .ref 127, .int 0, .int 0, .int 0, .int 0, .int 0]),
  .inl (.int, 8, .inl fun _ => 0),
  .inl (.boolean, 20, .inl fun _ => 0),
  .inl (.int, 20, .inl fun _ => 0),
  .inl (.int, 20, .inl fun _ => 0),
  .inl (.int, 20, .inl fun _ => 0),
  .inl (.int, 20, .inl fun _ => 0),
  .inr (3, [.int 0, .int 0, .ref 129, .int 0, .ref 130, .int 0, .ref 131, .ref 132, .ref 133, .ref 134, .int 0, .int 0, .int 0, .int 0, .int 0]),
  .inl (.int, 8, .inl fun _ => 0),
  .inl (.boolean, 20, .inl fun _ => 0),
  .inl (.int, 20, .inl fun _ => 0),
  .inl (.int, 20, .inl fun _ => 0),
  .inl (.int, 20, .inl fun _ => 0),
  .inl (.int, 20, .inl fun _ => 0),
  .inr (1, [.ref 136, .ref 137, .ref 138, .ref 139, .ref 140, .ref 141, .ref 142, .ref 143, .ref 144, .ref 145, .ref 146, .ref 147]),
  .inl (.int, 1000, .inl fun _ => 0),
  .inl (.int, 1000, .inl fun _ => 0),
  .inl (.boolean, 20, .inl fun _ => 0),
  .inl (.int, 20, .inl fun _ => 0),
  .inl (.int, 20, .inl fun _ => 0),
  .inl (.int, 20, .inl fun _ => 0),
  .inl (.int, 20, .inl fun _ => 0),
  .inl (.int, 20, .inl fun _ => 0),
  .inl (.int, 20, .inl fun _ => 0),
  .inl (.int, 20, .inl fun _ => 0),
  .inl (.int, 20, .inl fun _ => 0),
  .inl (.int, 20, .inl fun _ => 0),
  .inr (3, [.int 0, .int 0, .ref 149, .int 0, .ref 150, .int 0, .ref 151, .ref 152, .ref 153, .ref 154, .int 0, .int 0, .int 0, .int 0, .int 0]),
  .inl (.int, 8, .inl fun _ => 0),
  .inl (.boolean, 20, .inl fun _ => 0),
  .inl (.int, 20, .inl fun _ => 0),
  .inl (.int, 20, .inl fun _ => 0),
  .inl (.int, 20, .inl fun _ => 0),
  .inl (.int, 20, .inl fun _ => 0)]
set_option maxRecDepth 100000 in
theorem hxc_0 {xs : Nat → Int32} {L : Nat} : f_run a_MT xs L 0 [.ref 3] ([] ++ hx_1) (.inl none, [] ++ hx_2) := by
  refine r_of (ls := [.ref 3]) MT_0 (by decide) rfl ?_
  refine r_aload_n (pc' := 1) (f_at inc_0 (j := 0) rfl) rfl rfl ?_
  refine r_obj (pc' := 4) (f_at inc_0 (j := 1) rfl) (by decide) rfl ?_
  refine r_aload_n (pc' := 5) (f_at inc_0 (j := 2) rfl) rfl rfl ?_
  refine r_iconst (pc' := 6) (f_at inc_0 (j := 3) rfl) ci_0 rfl ?_
  refine r_newarr (pc' := 8) (c' := 0) (n' := 0) (ty := .byte) (els := .inl fun _ => 0) (z := 0) (m := 4) (B := 0) rfl (f_at inc_0 (j := 4) rfl) rfl rfl (by decide +kernel) rfl (by decide) ⟨by decide, by decide⟩ ⟨rfl, rfl, rfl⟩ ?_
  refine r_put (pc' := 11) (B := 0) rfl (j := 3) (f_at inc_0 (j := 5) rfl) rfl rfl ⟨by decide, rfl, rfl⟩ rfl ?_
  refine r_aload_n (pc' := 12) (f_at inc_0 (j := 6) rfl) rfl rfl ?_
  refine r_iconst (pc' := 13) (f_at inc_0 (j := 7) rfl) ci_0 rfl ?_
  refine r_put (pc' := 16) (B := 0) rfl (j := 3) (f_at inc_0 (j := 8) rfl) rfl rfl ⟨by decide, rfl, rfl⟩ rfl ?_
  refine r_aload_n (pc' := 17) (f_at inc_0 (j := 9) rfl) rfl rfl ?_
  refine r_iconst (pc' := 18) (f_at inc_0 (j := 10) rfl) ci_m1 rfl ?_
  refine r_put (pc' := 21) (B := 0) rfl (j := 3) (f_at inc_0 (j := 11) rfl) rfl rfl ⟨by decide, rfl, rfl⟩ rfl ?_
  exact r_vret (f_at inc_0 (j := 12) rfl) rfl rfl
set_option maxRecDepth 100000 in
theorem hxc_1 {xs : Nat → Int32} {L : Nat} : f_run a_MT xs L 1 [.ref 5] ([] ++ hx_3) (.inl none, [] ++ hx_4) := by
  refine r_of (ls := [.ref 5]) MT_1 (by decide) rfl ?_
  refine r_aload_n (pc' := 1) (f_at inc_1 (j := 0) rfl) rfl rfl ?_
  refine r_obj (pc' := 4) (f_at inc_1 (j := 1) rfl) (by decide) rfl ?_
  refine r_aload_n (pc' := 5) (f_at inc_1 (j := 2) rfl) rfl rfl ?_
  refine r_bipush (pc' := 7) (f_at inc_1 (j := 3) rfl) cb_8 rfl ?_
  refine r_newarr (pc' := 9) (c' := 3) (n' := 59) (ty := .int) (els := .inl fun _ => 0) (z := 8) (m := 6) (B := 0) rfl (f_at inc_1 (j := 4) rfl) rfl rfl (by decide +kernel) rfl (by decide) ⟨by decide, by decide⟩ ⟨rfl, rfl, rfl⟩ ?_
  refine r_put (pc' := 12) (B := 0) rfl (j := 5) (f_at inc_1 (j := 5) rfl) rfl rfl ⟨by decide, rfl, rfl⟩ rfl ?_
  refine r_aload_n (pc' := 13) (f_at inc_1 (j := 6) rfl) rfl rfl ?_
  refine r_bipush (pc' := 15) (f_at inc_1 (j := 7) rfl) cb_48 rfl ?_
  refine r_newarr (pc' := 17) (c' := 2) (n' := 11) (ty := .byte) (els := .inl fun _ => 0) (z := 48) (m := 7) (B := 0) rfl (f_at inc_1 (j := 8) rfl) rfl rfl (by decide +kernel) rfl (by decide) ⟨by decide, by decide⟩ ⟨rfl, rfl, rfl⟩ ?_
  refine r_put (pc' := 20) (B := 0) rfl (j := 5) (f_at inc_1 (j := 9) rfl) rfl rfl ⟨by decide, rfl, rfl⟩ rfl ?_
  refine r_aload_n (pc' := 21) (f_at inc_1 (j := 10) rfl) rfl rfl ?_
  refine r_bipush (pc' := 23) (f_at inc_1 (j := 11) rfl) cb_8 rfl ?_
  refine r_newarr (pc' := 25) (c' := 1) (n' := 3) (ty := .int) (els := .inl fun _ => 0) (z := 8) (m := 8) (B := 0) rfl (f_at inc_1 (j := 12) rfl) rfl rfl (by decide +kernel) rfl (by decide) ⟨by decide, by decide⟩ ⟨rfl, rfl, rfl⟩ ?_
  refine r_put (pc' := 28) (B := 0) rfl (j := 5) (f_at inc_1 (j := 13) rfl) rfl rfl ⟨by decide, rfl, rfl⟩ rfl ?_
  refine r_aload_n (pc' := 29) (f_at inc_1 (j := 14) rfl) rfl rfl ?_
  refine r_iconst (pc' := 30) (f_at inc_1 (j := 15) rfl) ci_3 rfl ?_
  refine r_newarr (pc' := 32) (c' := 0) (n' := 0) (ty := .int) (els := .inl fun _ => 0) (z := 3) (m := 9) (B := 0) rfl (f_at inc_1 (j := 16) rfl) rfl rfl (by decide +kernel) rfl (by decide) ⟨by decide, by decide⟩ ⟨rfl, rfl, rfl⟩ ?_
  refine r_put (pc' := 35) (B := 0) rfl (j := 5) (f_at inc_1 (j := 17) rfl) rfl rfl ⟨by decide, rfl, rfl⟩ rfl ?_
  exact r_vret (f_at inc_1 (j := 18) rfl) rfl rfl
set_option maxRecDepth 100000 in
theorem hxc_2 {xs : Nat → Int32} {L : Nat} : f_run a_MT xs L 2 [.ref 10] ([] ++ hx_5) (.inl none, [] ++ hx_6) := by
  refine r_of (ls := [.ref 10]) MT_2 (by decide) rfl ?_
  refine r_aload_n (pc' := 1) (f_at inc_2 (j := 0) rfl) rfl rfl ?_
  refine r_obj (pc' := 4) (f_at inc_2 (j := 1) rfl) (by decide) rfl ?_
  refine r_aload_n (pc' := 5) (f_at inc_2 (j := 2) rfl) rfl rfl ?_
  refine r_bipush (pc' := 7) (f_at inc_2 (j := 3) rfl) cb_30 rfl ?_
  refine r_bipush (pc' := 9) (f_at inc_2 (j := 4) rfl) cb_7 rfl ?_
  refine r_multi (pc' := 13) (c' := 0) (n' := 0) (u := 30) (z := 7) (m := 11) (B := 0) rfl (f_at inc_2 (j := 5) rfl) rfl (by decide +kernel) rfl (by decide) ⟨by decide, by decide⟩ ⟨rfl, rfl, rfl⟩ ?_
  refine r_put (pc' := 16) (B := 0) rfl (j := 10) (f_at inc_2 (j := 6) rfl) rfl rfl ⟨by decide, rfl, rfl⟩ rfl ?_
  exact r_vret (f_at inc_2 (j := 7) rfl) rfl rfl
set_option maxRecDepth 100000 in
theorem hxc_3 {xs : Nat → Int32} {L : Nat} : f_run a_MT xs L 3 [.ref 42] ([] ++ hx_7) (.inl none, [] ++ hx_8) := by
  refine r_of (ls := [.ref 42]) MT_3 (by decide) rfl ?_
  refine r_aload_n (pc' := 1) (f_at inc_3 (j := 0) rfl) rfl rfl ?_
  refine r_obj (pc' := 4) (f_at inc_3 (j := 1) rfl) (by decide) rfl ?_
  refine r_aload_n (pc' := 5) (f_at inc_3 (j := 2) rfl) rfl rfl ?_
  refine r_bipush (pc' := 7) (f_at inc_3 (j := 3) rfl) cb_24 rfl ?_
  refine r_newarr (pc' := 9) (c' := 0) (n' := 0) (ty := .int) (els := .inl fun _ => 0) (z := 24) (m := 43) (B := 0) rfl (f_at inc_3 (j := 4) rfl) rfl rfl (by decide +kernel) rfl (by decide) ⟨by decide, by decide⟩ ⟨rfl, rfl, rfl⟩ ?_
  refine r_put (pc' := 12) (B := 0) rfl (j := 42) (f_at inc_3 (j := 5) rfl) rfl rfl ⟨by decide, rfl, rfl⟩ rfl ?_
  exact r_vret (f_at inc_3 (j := 6) rfl) rfl rfl
set_option maxRecDepth 100000 in
theorem hxc_4 {xs : Nat → Int32} {L : Nat} : f_run a_MT xs L 4 [.ref 46] ([] ++ hx_10) (.inl none, [] ++ hx_11) := by
  refine r_of (ls := [.ref 46]) MT_4 (by decide) rfl ?_
  refine r_aload_n (pc' := 1) (f_at inc_4 (j := 0) rfl) rfl rfl ?_
  refine r_obj (pc' := 4) (f_at inc_4 (j := 1) rfl) (by decide) rfl ?_
  refine r_aload_n (pc' := 5) (f_at inc_4 (j := 2) rfl) rfl rfl ?_
  refine r_bipush (pc' := 7) (f_at inc_4 (j := 3) rfl) cb_8 rfl ?_
  refine r_newarr (pc' := 9) (c' := 5) (n' := 100) (ty := .int) (els := .inl fun _ => 0) (z := 8) (m := 47) (B := 0) rfl (f_at inc_4 (j := 4) rfl) rfl rfl (by decide +kernel) rfl (by decide) ⟨by decide, by decide⟩ ⟨rfl, rfl, rfl⟩ ?_
  refine r_put (pc' := 12) (B := 0) rfl (j := 46) (f_at inc_4 (j := 5) rfl) rfl rfl ⟨by decide, rfl, rfl⟩ rfl ?_
  refine r_aload_n (pc' := 13) (f_at inc_4 (j := 6) rfl) rfl rfl ?_
  refine r_bipush (pc' := 15) (f_at inc_4 (j := 7) rfl) cb_20 rfl ?_
  refine r_newarr (pc' := 17) (c' := 4) (n' := 80) (ty := .boolean) (els := .inl fun _ => 0) (z := 20) (m := 48) (B := 0) rfl (f_at inc_4 (j := 8) rfl) rfl rfl (by decide +kernel) rfl (by decide) ⟨by decide, by decide⟩ ⟨rfl, rfl, rfl⟩ ?_
  refine r_put (pc' := 20) (B := 0) rfl (j := 46) (f_at inc_4 (j := 9) rfl) rfl rfl ⟨by decide, rfl, rfl⟩ rfl ?_
  refine r_aload_n (pc' := 21) (f_at inc_4 (j := 10) rfl) rfl rfl ?_
  refine r_bipush (pc' := 23) (f_at inc_4 (j := 11) rfl) cb_20 rfl ?_
  refine r_newarr (pc' := 25) (c' := 3) (n' := 60) (ty := .int) (els := .inl fun _ => 0) (z := 20) (m := 49) (B := 0) rfl (f_at inc_4 (j := 12) rfl) rfl rfl (by decide +kernel) rfl (by decide) ⟨by decide, by decide⟩ ⟨rfl, rfl, rfl⟩ ?_
  refine r_put (pc' := 28) (B := 0) rfl (j := 46) (f_at inc_4 (j := 13) rfl) rfl rfl ⟨by decide, rfl, rfl⟩ rfl ?_
  refine r_aload_n (pc' := 29) (f_at inc_4 (j := 14) rfl) rfl rfl ?_
  refine r_bipush (pc' := 31) (f_at inc_4 (j := 15) rfl) cb_20 rfl ?_
  refine r_newarr (pc' := 33) (c' := 2) (n' := 40) (ty := .int) (els := .inl fun _ => 0) (z := 20) (m := 50) (B := 0) rfl (f_at inc_4 (j := 16) rfl) rfl rfl (by decide +kernel) rfl (by decide) ⟨by decide, by decide⟩ ⟨rfl, rfl, rfl⟩ ?_
  refine r_put (pc' := 36) (B := 0) rfl (j := 46) (f_at inc_4 (j := 17) rfl) rfl rfl ⟨by decide, rfl, rfl⟩ rfl ?_
  refine r_aload_n (pc' := 37) (f_at inc_4 (j := 18) rfl) rfl rfl ?_
  refine r_bipush (pc' := 39) (f_at inc_4 (j := 19) rfl) cb_20 rfl ?_
  refine r_newarr (pc' := 41) (c' := 1) (n' := 20) (ty := .int) (els := .inl fun _ => 0) (z := 20) (m := 51) (B := 0) rfl (f_at inc_4 (j := 20) rfl) rfl rfl (by decide +kernel) rfl (by decide) ⟨by decide, by decide⟩ ⟨rfl, rfl, rfl⟩ ?_
  refine r_put (pc' := 44) (B := 0) rfl (j := 46) (f_at inc_4 (j := 21) rfl) rfl rfl ⟨by decide, rfl, rfl⟩ rfl ?_
  refine r_aload_n (pc' := 45) (f_at inc_4 (j := 22) rfl) rfl rfl ?_
  refine r_bipush (pc' := 47) (f_at inc_4 (j := 23) rfl) cb_20 rfl ?_
  refine r_newarr (pc' := 49) (c' := 0) (n' := 0) (ty := .int) (els := .inl fun _ => 0) (z := 20) (m := 52) (B := 0) rfl (f_at inc_4 (j := 24) rfl) rfl rfl (by decide +kernel) rfl (by decide) ⟨by decide, by decide⟩ ⟨rfl, rfl, rfl⟩ ?_
  refine r_put (pc' := 52) (B := 0) rfl (j := 46) (f_at inc_4 (j := 25) rfl) rfl rfl ⟨by decide, rfl, rfl⟩ rfl ?_
  exact r_vret (f_at inc_4 (j := 26) rfl) rfl rfl
set_option maxRecDepth 100000 in
theorem hxc_5 {xs : Nat → Int32} {L : Nat} : f_run a_MT xs L 4 [.ref 53] ([] ++ hx_12) (.inl none, [] ++ hx_13) := by
  refine r_of (ls := [.ref 53]) MT_4 (by decide) rfl ?_
  refine r_aload_n (pc' := 1) (f_at inc_4 (j := 0) rfl) rfl rfl ?_
  refine r_obj (pc' := 4) (f_at inc_4 (j := 1) rfl) (by decide) rfl ?_
  refine r_aload_n (pc' := 5) (f_at inc_4 (j := 2) rfl) rfl rfl ?_
  refine r_bipush (pc' := 7) (f_at inc_4 (j := 3) rfl) cb_8 rfl ?_
  refine r_newarr (pc' := 9) (c' := 5) (n' := 100) (ty := .int) (els := .inl fun _ => 0) (z := 8) (m := 54) (B := 0) rfl (f_at inc_4 (j := 4) rfl) rfl rfl (by decide +kernel) rfl (by decide) ⟨by decide, by decide⟩ ⟨rfl, rfl, rfl⟩ ?_
  refine r_put (pc' := 12) (B := 0) rfl (j := 53) (f_at inc_4 (j := 5) rfl) rfl rfl ⟨by decide, rfl, rfl⟩ rfl ?_
  refine r_aload_n (pc' := 13) (f_at inc_4 (j := 6) rfl) rfl rfl ?_
  refine r_bipush (pc' := 15) (f_at inc_4 (j := 7) rfl) cb_20 rfl ?_
  refine r_newarr (pc' := 17) (c' := 4) (n' := 80) (ty := .boolean) (els := .inl fun _ => 0) (z := 20) (m := 55) (B := 0) rfl (f_at inc_4 (j := 8) rfl) rfl rfl (by decide +kernel) rfl (by decide) ⟨by decide, by decide⟩ ⟨rfl, rfl, rfl⟩ ?_
  refine r_put (pc' := 20) (B := 0) rfl (j := 53) (f_at inc_4 (j := 9) rfl) rfl rfl ⟨by decide, rfl, rfl⟩ rfl ?_
  refine r_aload_n (pc' := 21) (f_at inc_4 (j := 10) rfl) rfl rfl ?_
  refine r_bipush (pc' := 23) (f_at inc_4 (j := 11) rfl) cb_20 rfl ?_
  refine r_newarr (pc' := 25) (c' := 3) (n' := 60) (ty := .int) (els := .inl fun _ => 0) (z := 20) (m := 56) (B := 0) rfl (f_at inc_4 (j := 12) rfl) rfl rfl (by decide +kernel) rfl (by decide) ⟨by decide, by decide⟩ ⟨rfl, rfl, rfl⟩ ?_
  refine r_put (pc' := 28) (B := 0) rfl (j := 53) (f_at inc_4 (j := 13) rfl) rfl rfl ⟨by decide, rfl, rfl⟩ rfl ?_
  refine r_aload_n (pc' := 29) (f_at inc_4 (j := 14) rfl) rfl rfl ?_
  refine r_bipush (pc' := 31) (f_at inc_4 (j := 15) rfl) cb_20 rfl ?_
  refine r_newarr (pc' := 33) (c' := 2) (n' := 40) (ty := .int) (els := .inl fun _ => 0) (z := 20) (m := 57) (B := 0) rfl (f_at inc_4 (j := 16) rfl) rfl rfl (by decide +kernel) rfl (by decide) ⟨by decide, by decide⟩ ⟨rfl, rfl, rfl⟩ ?_
  refine r_put (pc' := 36) (B := 0) rfl (j := 53) (f_at inc_4 (j := 17) rfl) rfl rfl ⟨by decide, rfl, rfl⟩ rfl ?_
  refine r_aload_n (pc' := 37) (f_at inc_4 (j := 18) rfl) rfl rfl ?_
  refine r_bipush (pc' := 39) (f_at inc_4 (j := 19) rfl) cb_20 rfl ?_
  refine r_newarr (pc' := 41) (c' := 1) (n' := 20) (ty := .int) (els := .inl fun _ => 0) (z := 20) (m := 58) (B := 0) rfl (f_at inc_4 (j := 20) rfl) rfl rfl (by decide +kernel) rfl (by decide) ⟨by decide, by decide⟩ ⟨rfl, rfl, rfl⟩ ?_
  refine r_put (pc' := 44) (B := 0) rfl (j := 53) (f_at inc_4 (j := 21) rfl) rfl rfl ⟨by decide, rfl, rfl⟩ rfl ?_
  refine r_aload_n (pc' := 45) (f_at inc_4 (j := 22) rfl) rfl rfl ?_
  refine r_bipush (pc' := 47) (f_at inc_4 (j := 23) rfl) cb_20 rfl ?_
  refine r_newarr (pc' := 49) (c' := 0) (n' := 0) (ty := .int) (els := .inl fun _ => 0) (z := 20) (m := 59) (B := 0) rfl (f_at inc_4 (j := 24) rfl) rfl rfl (by decide +kernel) rfl (by decide) ⟨by decide, by decide⟩ ⟨rfl, rfl, rfl⟩ ?_
  refine r_put (pc' := 52) (B := 0) rfl (j := 53) (f_at inc_4 (j := 25) rfl) rfl rfl ⟨by decide, rfl, rfl⟩ rfl ?_
  exact r_vret (f_at inc_4 (j := 26) rfl) rfl rfl
set_option maxRecDepth 100000 in
theorem hxc_6 {xs : Nat → Int32} {L : Nat} : f_run a_MT xs L 4 [.ref 60] ([] ++ hx_14) (.inl none, [] ++ hx_15) := by
  refine r_of (ls := [.ref 60]) MT_4 (by decide) rfl ?_
  refine r_aload_n (pc' := 1) (f_at inc_4 (j := 0) rfl) rfl rfl ?_
  refine r_obj (pc' := 4) (f_at inc_4 (j := 1) rfl) (by decide) rfl ?_
  refine r_aload_n (pc' := 5) (f_at inc_4 (j := 2) rfl) rfl rfl ?_
  refine r_bipush (pc' := 7) (f_at inc_4 (j := 3) rfl) cb_8 rfl ?_
  refine r_newarr (pc' := 9) (c' := 5) (n' := 100) (ty := .int) (els := .inl fun _ => 0) (z := 8) (m := 61) (B := 0) rfl (f_at inc_4 (j := 4) rfl) rfl rfl (by decide +kernel) rfl (by decide) ⟨by decide, by decide⟩ ⟨rfl, rfl, rfl⟩ ?_
  refine r_put (pc' := 12) (B := 0) rfl (j := 60) (f_at inc_4 (j := 5) rfl) rfl rfl ⟨by decide, rfl, rfl⟩ rfl ?_
  refine r_aload_n (pc' := 13) (f_at inc_4 (j := 6) rfl) rfl rfl ?_
  refine r_bipush (pc' := 15) (f_at inc_4 (j := 7) rfl) cb_20 rfl ?_
  refine r_newarr (pc' := 17) (c' := 4) (n' := 80) (ty := .boolean) (els := .inl fun _ => 0) (z := 20) (m := 62) (B := 0) rfl (f_at inc_4 (j := 8) rfl) rfl rfl (by decide +kernel) rfl (by decide) ⟨by decide, by decide⟩ ⟨rfl, rfl, rfl⟩ ?_
  refine r_put (pc' := 20) (B := 0) rfl (j := 60) (f_at inc_4 (j := 9) rfl) rfl rfl ⟨by decide, rfl, rfl⟩ rfl ?_
  refine r_aload_n (pc' := 21) (f_at inc_4 (j := 10) rfl) rfl rfl ?_
  refine r_bipush (pc' := 23) (f_at inc_4 (j := 11) rfl) cb_20 rfl ?_
  refine r_newarr (pc' := 25) (c' := 3) (n' := 60) (ty := .int) (els := .inl fun _ => 0) (z := 20) (m := 63) (B := 0) rfl (f_at inc_4 (j := 12) rfl) rfl rfl (by decide +kernel) rfl (by decide) ⟨by decide, by decide⟩ ⟨rfl, rfl, rfl⟩ ?_
  refine r_put (pc' := 28) (B := 0) rfl (j := 60) (f_at inc_4 (j := 13) rfl) rfl rfl ⟨by decide, rfl, rfl⟩ rfl ?_
  refine r_aload_n (pc' := 29) (f_at inc_4 (j := 14) rfl) rfl rfl ?_
  refine r_bipush (pc' := 31) (f_at inc_4 (j := 15) rfl) cb_20 rfl ?_
  refine r_newarr (pc' := 33) (c' := 2) (n' := 40) (ty := .int) (els := .inl fun _ => 0) (z := 20) (m := 64) (B := 0) rfl (f_at inc_4 (j := 16) rfl) rfl rfl (by decide +kernel) rfl (by decide) ⟨by decide, by decide⟩ ⟨rfl, rfl, rfl⟩ ?_
  refine r_put (pc' := 36) (B := 0) rfl (j := 60) (f_at inc_4 (j := 17) rfl) rfl rfl ⟨by decide, rfl, rfl⟩ rfl ?_
  refine r_aload_n (pc' := 37) (f_at inc_4 (j := 18) rfl) rfl rfl ?_
  refine r_bipush (pc' := 39) (f_at inc_4 (j := 19) rfl) cb_20 rfl ?_
  refine r_newarr (pc' := 41) (c' := 1) (n' := 20) (ty := .int) (els := .inl fun _ => 0) (z := 20) (m := 65) (B := 0) rfl (f_at inc_4 (j := 20) rfl) rfl rfl (by decide +kernel) rfl (by decide) ⟨by decide, by decide⟩ ⟨rfl, rfl, rfl⟩ ?_
  refine r_put (pc' := 44) (B := 0) rfl (j := 60) (f_at inc_4 (j := 21) rfl) rfl rfl ⟨by decide, rfl, rfl⟩ rfl ?_
  refine r_aload_n (pc' := 45) (f_at inc_4 (j := 22) rfl) rfl rfl ?_
  refine r_bipush (pc' := 47) (f_at inc_4 (j := 23) rfl) cb_20 rfl ?_
  refine r_newarr (pc' := 49) (c' := 0) (n' := 0) (ty := .int) (els := .inl fun _ => 0) (z := 20) (m := 66) (B := 0) rfl (f_at inc_4 (j := 24) rfl) rfl rfl (by decide +kernel) rfl (by decide) ⟨by decide, by decide⟩ ⟨rfl, rfl, rfl⟩ ?_
  refine r_put (pc' := 52) (B := 0) rfl (j := 60) (f_at inc_4 (j := 25) rfl) rfl rfl ⟨by decide, rfl, rfl⟩ rfl ?_
  exact r_vret (f_at inc_4 (j := 26) rfl) rfl rfl
set_option maxRecDepth 100000 in
theorem hxc_7 {xs : Nat → Int32} {L : Nat} : f_run a_MT xs L 4 [.ref 67] ([] ++ hx_16) (.inl none, [] ++ hx_17) := by
  refine r_of (ls := [.ref 67]) MT_4 (by decide) rfl ?_
  refine r_aload_n (pc' := 1) (f_at inc_4 (j := 0) rfl) rfl rfl ?_
  refine r_obj (pc' := 4) (f_at inc_4 (j := 1) rfl) (by decide) rfl ?_
  refine r_aload_n (pc' := 5) (f_at inc_4 (j := 2) rfl) rfl rfl ?_
  refine r_bipush (pc' := 7) (f_at inc_4 (j := 3) rfl) cb_8 rfl ?_
  refine r_newarr (pc' := 9) (c' := 5) (n' := 100) (ty := .int) (els := .inl fun _ => 0) (z := 8) (m := 68) (B := 0) rfl (f_at inc_4 (j := 4) rfl) rfl rfl (by decide +kernel) rfl (by decide) ⟨by decide, by decide⟩ ⟨rfl, rfl, rfl⟩ ?_
  refine r_put (pc' := 12) (B := 0) rfl (j := 67) (f_at inc_4 (j := 5) rfl) rfl rfl ⟨by decide, rfl, rfl⟩ rfl ?_
  refine r_aload_n (pc' := 13) (f_at inc_4 (j := 6) rfl) rfl rfl ?_
  refine r_bipush (pc' := 15) (f_at inc_4 (j := 7) rfl) cb_20 rfl ?_
  refine r_newarr (pc' := 17) (c' := 4) (n' := 80) (ty := .boolean) (els := .inl fun _ => 0) (z := 20) (m := 69) (B := 0) rfl (f_at inc_4 (j := 8) rfl) rfl rfl (by decide +kernel) rfl (by decide) ⟨by decide, by decide⟩ ⟨rfl, rfl, rfl⟩ ?_
  refine r_put (pc' := 20) (B := 0) rfl (j := 67) (f_at inc_4 (j := 9) rfl) rfl rfl ⟨by decide, rfl, rfl⟩ rfl ?_
  refine r_aload_n (pc' := 21) (f_at inc_4 (j := 10) rfl) rfl rfl ?_
  refine r_bipush (pc' := 23) (f_at inc_4 (j := 11) rfl) cb_20 rfl ?_
  refine r_newarr (pc' := 25) (c' := 3) (n' := 60) (ty := .int) (els := .inl fun _ => 0) (z := 20) (m := 70) (B := 0) rfl (f_at inc_4 (j := 12) rfl) rfl rfl (by decide +kernel) rfl (by decide) ⟨by decide, by decide⟩ ⟨rfl, rfl, rfl⟩ ?_
  refine r_put (pc' := 28) (B := 0) rfl (j := 67) (f_at inc_4 (j := 13) rfl) rfl rfl ⟨by decide, rfl, rfl⟩ rfl ?_
  refine r_aload_n (pc' := 29) (f_at inc_4 (j := 14) rfl) rfl rfl ?_
  refine r_bipush (pc' := 31) (f_at inc_4 (j := 15) rfl) cb_20 rfl ?_
  refine r_newarr (pc' := 33) (c' := 2) (n' := 40) (ty := .int) (els := .inl fun _ => 0) (z := 20) (m := 71) (B := 0) rfl (f_at inc_4 (j := 16) rfl) rfl rfl (by decide +kernel) rfl (by decide) ⟨by decide, by decide⟩ ⟨rfl, rfl, rfl⟩ ?_
  refine r_put (pc' := 36) (B := 0) rfl (j := 67) (f_at inc_4 (j := 17) rfl) rfl rfl ⟨by decide, rfl, rfl⟩ rfl ?_
  refine r_aload_n (pc' := 37) (f_at inc_4 (j := 18) rfl) rfl rfl ?_
  refine r_bipush (pc' := 39) (f_at inc_4 (j := 19) rfl) cb_20 rfl ?_
  refine r_newarr (pc' := 41) (c' := 1) (n' := 20) (ty := .int) (els := .inl fun _ => 0) (z := 20) (m := 72) (B := 0) rfl (f_at inc_4 (j := 20) rfl) rfl rfl (by decide +kernel) rfl (by decide) ⟨by decide, by decide⟩ ⟨rfl, rfl, rfl⟩ ?_
  refine r_put (pc' := 44) (B := 0) rfl (j := 67) (f_at inc_4 (j := 21) rfl) rfl rfl ⟨by decide, rfl, rfl⟩ rfl ?_
  refine r_aload_n (pc' := 45) (f_at inc_4 (j := 22) rfl) rfl rfl ?_
  refine r_bipush (pc' := 47) (f_at inc_4 (j := 23) rfl) cb_20 rfl ?_
  refine r_newarr (pc' := 49) (c' := 0) (n' := 0) (ty := .int) (els := .inl fun _ => 0) (z := 20) (m := 73) (B := 0) rfl (f_at inc_4 (j := 24) rfl) rfl rfl (by decide +kernel) rfl (by decide) ⟨by decide, by decide⟩ ⟨rfl, rfl, rfl⟩ ?_
  refine r_put (pc' := 52) (B := 0) rfl (j := 67) (f_at inc_4 (j := 25) rfl) rfl rfl ⟨by decide, rfl, rfl⟩ rfl ?_
  exact r_vret (f_at inc_4 (j := 26) rfl) rfl rfl
set_option maxRecDepth 100000 in
theorem hxc_8 {xs : Nat → Int32} {L : Nat} : f_run a_MT xs L 4 [.ref 74] ([] ++ hx_18) (.inl none, [] ++ hx_19) := by
  refine r_of (ls := [.ref 74]) MT_4 (by decide) rfl ?_
  refine r_aload_n (pc' := 1) (f_at inc_4 (j := 0) rfl) rfl rfl ?_
  refine r_obj (pc' := 4) (f_at inc_4 (j := 1) rfl) (by decide) rfl ?_
  refine r_aload_n (pc' := 5) (f_at inc_4 (j := 2) rfl) rfl rfl ?_
  refine r_bipush (pc' := 7) (f_at inc_4 (j := 3) rfl) cb_8 rfl ?_
  refine r_newarr (pc' := 9) (c' := 5) (n' := 100) (ty := .int) (els := .inl fun _ => 0) (z := 8) (m := 75) (B := 0) rfl (f_at inc_4 (j := 4) rfl) rfl rfl (by decide +kernel) rfl (by decide) ⟨by decide, by decide⟩ ⟨rfl, rfl, rfl⟩ ?_
  refine r_put (pc' := 12) (B := 0) rfl (j := 74) (f_at inc_4 (j := 5) rfl) rfl rfl ⟨by decide, rfl, rfl⟩ rfl ?_
  refine r_aload_n (pc' := 13) (f_at inc_4 (j := 6) rfl) rfl rfl ?_
  refine r_bipush (pc' := 15) (f_at inc_4 (j := 7) rfl) cb_20 rfl ?_
  refine r_newarr (pc' := 17) (c' := 4) (n' := 80) (ty := .boolean) (els := .inl fun _ => 0) (z := 20) (m := 76) (B := 0) rfl (f_at inc_4 (j := 8) rfl) rfl rfl (by decide +kernel) rfl (by decide) ⟨by decide, by decide⟩ ⟨rfl, rfl, rfl⟩ ?_
  refine r_put (pc' := 20) (B := 0) rfl (j := 74) (f_at inc_4 (j := 9) rfl) rfl rfl ⟨by decide, rfl, rfl⟩ rfl ?_
  refine r_aload_n (pc' := 21) (f_at inc_4 (j := 10) rfl) rfl rfl ?_
  refine r_bipush (pc' := 23) (f_at inc_4 (j := 11) rfl) cb_20 rfl ?_
  refine r_newarr (pc' := 25) (c' := 3) (n' := 60) (ty := .int) (els := .inl fun _ => 0) (z := 20) (m := 77) (B := 0) rfl (f_at inc_4 (j := 12) rfl) rfl rfl (by decide +kernel) rfl (by decide) ⟨by decide, by decide⟩ ⟨rfl, rfl, rfl⟩ ?_
  refine r_put (pc' := 28) (B := 0) rfl (j := 74) (f_at inc_4 (j := 13) rfl) rfl rfl ⟨by decide, rfl, rfl⟩ rfl ?_
  refine r_aload_n (pc' := 29) (f_at inc_4 (j := 14) rfl) rfl rfl ?_
  refine r_bipush (pc' := 31) (f_at inc_4 (j := 15) rfl) cb_20 rfl ?_
  refine r_newarr (pc' := 33) (c' := 2) (n' := 40) (ty := .int) (els := .inl fun _ => 0) (z := 20) (m := 78) (B := 0) rfl (f_at inc_4 (j := 16) rfl) rfl rfl (by decide +kernel) rfl (by decide) ⟨by decide, by decide⟩ ⟨rfl, rfl, rfl⟩ ?_
  refine r_put (pc' := 36) (B := 0) rfl (j := 74) (f_at inc_4 (j := 17) rfl) rfl rfl ⟨by decide, rfl, rfl⟩ rfl ?_
  refine r_aload_n (pc' := 37) (f_at inc_4 (j := 18) rfl) rfl rfl ?_
  refine r_bipush (pc' := 39) (f_at inc_4 (j := 19) rfl) cb_20 rfl ?_
  refine r_newarr (pc' := 41) (c' := 1) (n' := 20) (ty := .int) (els := .inl fun _ => 0) (z := 20) (m := 79) (B := 0) rfl (f_at inc_4 (j := 20) rfl) rfl rfl (by decide +kernel) rfl (by decide) ⟨by decide, by decide⟩ ⟨rfl, rfl, rfl⟩ ?_
  refine r_put (pc' := 44) (B := 0) rfl (j := 74) (f_at inc_4 (j := 21) rfl) rfl rfl ⟨by decide, rfl, rfl⟩ rfl ?_
  refine r_aload_n (pc' := 45) (f_at inc_4 (j := 22) rfl) rfl rfl ?_
  refine r_bipush (pc' := 47) (f_at inc_4 (j := 23) rfl) cb_20 rfl ?_
  refine r_newarr (pc' := 49) (c' := 0) (n' := 0) (ty := .int) (els := .inl fun _ => 0) (z := 20) (m := 80) (B := 0) rfl (f_at inc_4 (j := 24) rfl) rfl rfl (by decide +kernel) rfl (by decide) ⟨by decide, by decide⟩ ⟨rfl, rfl, rfl⟩ ?_
  refine r_put (pc' := 52) (B := 0) rfl (j := 74) (f_at inc_4 (j := 25) rfl) rfl rfl ⟨by decide, rfl, rfl⟩ rfl ?_
  exact r_vret (f_at inc_4 (j := 26) rfl) rfl rfl
set_option maxRecDepth 100000 in
theorem hxc_9 {xs : Nat → Int32} {L : Nat} : f_run a_MT xs L 4 [.ref 81] ([] ++ hx_20) (.inl none, [] ++ hx_21) := by
  refine r_of (ls := [.ref 81]) MT_4 (by decide) rfl ?_
  refine r_aload_n (pc' := 1) (f_at inc_4 (j := 0) rfl) rfl rfl ?_
  refine r_obj (pc' := 4) (f_at inc_4 (j := 1) rfl) (by decide) rfl ?_
  refine r_aload_n (pc' := 5) (f_at inc_4 (j := 2) rfl) rfl rfl ?_
  refine r_bipush (pc' := 7) (f_at inc_4 (j := 3) rfl) cb_8 rfl ?_
  refine r_newarr (pc' := 9) (c' := 5) (n' := 100) (ty := .int) (els := .inl fun _ => 0) (z := 8) (m := 82) (B := 0) rfl (f_at inc_4 (j := 4) rfl) rfl rfl (by decide +kernel) rfl (by decide) ⟨by decide, by decide⟩ ⟨rfl, rfl, rfl⟩ ?_
  refine r_put (pc' := 12) (B := 0) rfl (j := 81) (f_at inc_4 (j := 5) rfl) rfl rfl ⟨by decide, rfl, rfl⟩ rfl ?_
  refine r_aload_n (pc' := 13) (f_at inc_4 (j := 6) rfl) rfl rfl ?_
  refine r_bipush (pc' := 15) (f_at inc_4 (j := 7) rfl) cb_20 rfl ?_
  refine r_newarr (pc' := 17) (c' := 4) (n' := 80) (ty := .boolean) (els := .inl fun _ => 0) (z := 20) (m := 83) (B := 0) rfl (f_at inc_4 (j := 8) rfl) rfl rfl (by decide +kernel) rfl (by decide) ⟨by decide, by decide⟩ ⟨rfl, rfl, rfl⟩ ?_
  refine r_put (pc' := 20) (B := 0) rfl (j := 81) (f_at inc_4 (j := 9) rfl) rfl rfl ⟨by decide, rfl, rfl⟩ rfl ?_
  refine r_aload_n (pc' := 21) (f_at inc_4 (j := 10) rfl) rfl rfl ?_
  refine r_bipush (pc' := 23) (f_at inc_4 (j := 11) rfl) cb_20 rfl ?_
  refine r_newarr (pc' := 25) (c' := 3) (n' := 60) (ty := .int) (els := .inl fun _ => 0) (z := 20) (m := 84) (B := 0) rfl (f_at inc_4 (j := 12) rfl) rfl rfl (by decide +kernel) rfl (by decide) ⟨by decide, by decide⟩ ⟨rfl, rfl, rfl⟩ ?_
  refine r_put (pc' := 28) (B := 0) rfl (j := 81) (f_at inc_4 (j := 13) rfl) rfl rfl ⟨by decide, rfl, rfl⟩ rfl ?_
  refine r_aload_n (pc' := 29) (f_at inc_4 (j := 14) rfl) rfl rfl ?_
  refine r_bipush (pc' := 31) (f_at inc_4 (j := 15) rfl) cb_20 rfl ?_
  refine r_newarr (pc' := 33) (c' := 2) (n' := 40) (ty := .int) (els := .inl fun _ => 0) (z := 20) (m := 85) (B := 0) rfl (f_at inc_4 (j := 16) rfl) rfl rfl (by decide +kernel) rfl (by decide) ⟨by decide, by decide⟩ ⟨rfl, rfl, rfl⟩ ?_
  refine r_put (pc' := 36) (B := 0) rfl (j := 81) (f_at inc_4 (j := 17) rfl) rfl rfl ⟨by decide, rfl, rfl⟩ rfl ?_
  refine r_aload_n (pc' := 37) (f_at inc_4 (j := 18) rfl) rfl rfl ?_
  refine r_bipush (pc' := 39) (f_at inc_4 (j := 19) rfl) cb_20 rfl ?_
  refine r_newarr (pc' := 41) (c' := 1) (n' := 20) (ty := .int) (els := .inl fun _ => 0) (z := 20) (m := 86) (B := 0) rfl (f_at inc_4 (j := 20) rfl) rfl rfl (by decide +kernel) rfl (by decide) ⟨by decide, by decide⟩ ⟨rfl, rfl, rfl⟩ ?_
  refine r_put (pc' := 44) (B := 0) rfl (j := 81) (f_at inc_4 (j := 21) rfl) rfl rfl ⟨by decide, rfl, rfl⟩ rfl ?_
  refine r_aload_n (pc' := 45) (f_at inc_4 (j := 22) rfl) rfl rfl ?_
  refine r_bipush (pc' := 47) (f_at inc_4 (j := 23) rfl) cb_20 rfl ?_
  refine r_newarr (pc' := 49) (c' := 0) (n' := 0) (ty := .int) (els := .inl fun _ => 0) (z := 20) (m := 87) (B := 0) rfl (f_at inc_4 (j := 24) rfl) rfl rfl (by decide +kernel) rfl (by decide) ⟨by decide, by decide⟩ ⟨rfl, rfl, rfl⟩ ?_
  refine r_put (pc' := 52) (B := 0) rfl (j := 81) (f_at inc_4 (j := 25) rfl) rfl rfl ⟨by decide, rfl, rfl⟩ rfl ?_
  exact r_vret (f_at inc_4 (j := 26) rfl) rfl rfl
set_option maxRecDepth 100000 in
theorem hxc_10 {xs : Nat → Int32} {L : Nat} : f_run a_MT xs L 4 [.ref 88] ([] ++ hx_22) (.inl none, [] ++ hx_23) := by
  refine r_of (ls := [.ref 88]) MT_4 (by decide) rfl ?_
  refine r_aload_n (pc' := 1) (f_at inc_4 (j := 0) rfl) rfl rfl ?_
  refine r_obj (pc' := 4) (f_at inc_4 (j := 1) rfl) (by decide) rfl ?_
  refine r_aload_n (pc' := 5) (f_at inc_4 (j := 2) rfl) rfl rfl ?_
  refine r_bipush (pc' := 7) (f_at inc_4 (j := 3) rfl) cb_8 rfl ?_
  refine r_newarr (pc' := 9) (c' := 5) (n' := 100) (ty := .int) (els := .inl fun _ => 0) (z := 8) (m := 89) (B := 0) rfl (f_at inc_4 (j := 4) rfl) rfl rfl (by decide +kernel) rfl (by decide) ⟨by decide, by decide⟩ ⟨rfl, rfl, rfl⟩ ?_
  refine r_put (pc' := 12) (B := 0) rfl (j := 88) (f_at inc_4 (j := 5) rfl) rfl rfl ⟨by decide, rfl, rfl⟩ rfl ?_
  refine r_aload_n (pc' := 13) (f_at inc_4 (j := 6) rfl) rfl rfl ?_
  refine r_bipush (pc' := 15) (f_at inc_4 (j := 7) rfl) cb_20 rfl ?_
  refine r_newarr (pc' := 17) (c' := 4) (n' := 80) (ty := .boolean) (els := .inl fun _ => 0) (z := 20) (m := 90) (B := 0) rfl (f_at inc_4 (j := 8) rfl) rfl rfl (by decide +kernel) rfl (by decide) ⟨by decide, by decide⟩ ⟨rfl, rfl, rfl⟩ ?_
  refine r_put (pc' := 20) (B := 0) rfl (j := 88) (f_at inc_4 (j := 9) rfl) rfl rfl ⟨by decide, rfl, rfl⟩ rfl ?_
  refine r_aload_n (pc' := 21) (f_at inc_4 (j := 10) rfl) rfl rfl ?_
  refine r_bipush (pc' := 23) (f_at inc_4 (j := 11) rfl) cb_20 rfl ?_
  refine r_newarr (pc' := 25) (c' := 3) (n' := 60) (ty := .int) (els := .inl fun _ => 0) (z := 20) (m := 91) (B := 0) rfl (f_at inc_4 (j := 12) rfl) rfl rfl (by decide +kernel) rfl (by decide) ⟨by decide, by decide⟩ ⟨rfl, rfl, rfl⟩ ?_
  refine r_put (pc' := 28) (B := 0) rfl (j := 88) (f_at inc_4 (j := 13) rfl) rfl rfl ⟨by decide, rfl, rfl⟩ rfl ?_
  refine r_aload_n (pc' := 29) (f_at inc_4 (j := 14) rfl) rfl rfl ?_
  refine r_bipush (pc' := 31) (f_at inc_4 (j := 15) rfl) cb_20 rfl ?_
  refine r_newarr (pc' := 33) (c' := 2) (n' := 40) (ty := .int) (els := .inl fun _ => 0) (z := 20) (m := 92) (B := 0) rfl (f_at inc_4 (j := 16) rfl) rfl rfl (by decide +kernel) rfl (by decide) ⟨by decide, by decide⟩ ⟨rfl, rfl, rfl⟩ ?_
  refine r_put (pc' := 36) (B := 0) rfl (j := 88) (f_at inc_4 (j := 17) rfl) rfl rfl ⟨by decide, rfl, rfl⟩ rfl ?_
  refine r_aload_n (pc' := 37) (f_at inc_4 (j := 18) rfl) rfl rfl ?_
  refine r_bipush (pc' := 39) (f_at inc_4 (j := 19) rfl) cb_20 rfl ?_
  refine r_newarr (pc' := 41) (c' := 1) (n' := 20) (ty := .int) (els := .inl fun _ => 0) (z := 20) (m := 93) (B := 0) rfl (f_at inc_4 (j := 20) rfl) rfl rfl (by decide +kernel) rfl (by decide) ⟨by decide, by decide⟩ ⟨rfl, rfl, rfl⟩ ?_
  refine r_put (pc' := 44) (B := 0) rfl (j := 88) (f_at inc_4 (j := 21) rfl) rfl rfl ⟨by decide, rfl, rfl⟩ rfl ?_
  refine r_aload_n (pc' := 45) (f_at inc_4 (j := 22) rfl) rfl rfl ?_
  refine r_bipush (pc' := 47) (f_at inc_4 (j := 23) rfl) cb_20 rfl ?_
  refine r_newarr (pc' := 49) (c' := 0) (n' := 0) (ty := .int) (els := .inl fun _ => 0) (z := 20) (m := 94) (B := 0) rfl (f_at inc_4 (j := 24) rfl) rfl rfl (by decide +kernel) rfl (by decide) ⟨by decide, by decide⟩ ⟨rfl, rfl, rfl⟩ ?_
  refine r_put (pc' := 52) (B := 0) rfl (j := 88) (f_at inc_4 (j := 25) rfl) rfl rfl ⟨by decide, rfl, rfl⟩ rfl ?_
  exact r_vret (f_at inc_4 (j := 26) rfl) rfl rfl
set_option maxRecDepth 100000 in
theorem hxc_11 {xs : Nat → Int32} {L : Nat} : f_run a_MT xs L 4 [.ref 95] ([] ++ hx_24) (.inl none, [] ++ hx_25) := by
  refine r_of (ls := [.ref 95]) MT_4 (by decide) rfl ?_
  refine r_aload_n (pc' := 1) (f_at inc_4 (j := 0) rfl) rfl rfl ?_
  refine r_obj (pc' := 4) (f_at inc_4 (j := 1) rfl) (by decide) rfl ?_
  refine r_aload_n (pc' := 5) (f_at inc_4 (j := 2) rfl) rfl rfl ?_
  refine r_bipush (pc' := 7) (f_at inc_4 (j := 3) rfl) cb_8 rfl ?_
  refine r_newarr (pc' := 9) (c' := 5) (n' := 100) (ty := .int) (els := .inl fun _ => 0) (z := 8) (m := 96) (B := 0) rfl (f_at inc_4 (j := 4) rfl) rfl rfl (by decide +kernel) rfl (by decide) ⟨by decide, by decide⟩ ⟨rfl, rfl, rfl⟩ ?_
  refine r_put (pc' := 12) (B := 0) rfl (j := 95) (f_at inc_4 (j := 5) rfl) rfl rfl ⟨by decide, rfl, rfl⟩ rfl ?_
  refine r_aload_n (pc' := 13) (f_at inc_4 (j := 6) rfl) rfl rfl ?_
  refine r_bipush (pc' := 15) (f_at inc_4 (j := 7) rfl) cb_20 rfl ?_
  refine r_newarr (pc' := 17) (c' := 4) (n' := 80) (ty := .boolean) (els := .inl fun _ => 0) (z := 20) (m := 97) (B := 0) rfl (f_at inc_4 (j := 8) rfl) rfl rfl (by decide +kernel) rfl (by decide) ⟨by decide, by decide⟩ ⟨rfl, rfl, rfl⟩ ?_
  refine r_put (pc' := 20) (B := 0) rfl (j := 95) (f_at inc_4 (j := 9) rfl) rfl rfl ⟨by decide, rfl, rfl⟩ rfl ?_
  refine r_aload_n (pc' := 21) (f_at inc_4 (j := 10) rfl) rfl rfl ?_
  refine r_bipush (pc' := 23) (f_at inc_4 (j := 11) rfl) cb_20 rfl ?_
  refine r_newarr (pc' := 25) (c' := 3) (n' := 60) (ty := .int) (els := .inl fun _ => 0) (z := 20) (m := 98) (B := 0) rfl (f_at inc_4 (j := 12) rfl) rfl rfl (by decide +kernel) rfl (by decide) ⟨by decide, by decide⟩ ⟨rfl, rfl, rfl⟩ ?_
  refine r_put (pc' := 28) (B := 0) rfl (j := 95) (f_at inc_4 (j := 13) rfl) rfl rfl ⟨by decide, rfl, rfl⟩ rfl ?_
  refine r_aload_n (pc' := 29) (f_at inc_4 (j := 14) rfl) rfl rfl ?_
  refine r_bipush (pc' := 31) (f_at inc_4 (j := 15) rfl) cb_20 rfl ?_
  refine r_newarr (pc' := 33) (c' := 2) (n' := 40) (ty := .int) (els := .inl fun _ => 0) (z := 20) (m := 99) (B := 0) rfl (f_at inc_4 (j := 16) rfl) rfl rfl (by decide +kernel) rfl (by decide) ⟨by decide, by decide⟩ ⟨rfl, rfl, rfl⟩ ?_
  refine r_put (pc' := 36) (B := 0) rfl (j := 95) (f_at inc_4 (j := 17) rfl) rfl rfl ⟨by decide, rfl, rfl⟩ rfl ?_
  refine r_aload_n (pc' := 37) (f_at inc_4 (j := 18) rfl) rfl rfl ?_
  refine r_bipush (pc' := 39) (f_at inc_4 (j := 19) rfl) cb_20 rfl ?_
  refine r_newarr (pc' := 41) (c' := 1) (n' := 20) (ty := .int) (els := .inl fun _ => 0) (z := 20) (m := 100) (B := 0) rfl (f_at inc_4 (j := 20) rfl) rfl rfl (by decide +kernel) rfl (by decide) ⟨by decide, by decide⟩ ⟨rfl, rfl, rfl⟩ ?_
  refine r_put (pc' := 44) (B := 0) rfl (j := 95) (f_at inc_4 (j := 21) rfl) rfl rfl ⟨by decide, rfl, rfl⟩ rfl ?_
  refine r_aload_n (pc' := 45) (f_at inc_4 (j := 22) rfl) rfl rfl ?_
  refine r_bipush (pc' := 47) (f_at inc_4 (j := 23) rfl) cb_20 rfl ?_
  refine r_newarr (pc' := 49) (c' := 0) (n' := 0) (ty := .int) (els := .inl fun _ => 0) (z := 20) (m := 101) (B := 0) rfl (f_at inc_4 (j := 24) rfl) rfl rfl (by decide +kernel) rfl (by decide) ⟨by decide, by decide⟩ ⟨rfl, rfl, rfl⟩ ?_
  refine r_put (pc' := 52) (B := 0) rfl (j := 95) (f_at inc_4 (j := 25) rfl) rfl rfl ⟨by decide, rfl, rfl⟩ rfl ?_
  exact r_vret (f_at inc_4 (j := 26) rfl) rfl rfl
set_option maxRecDepth 100000 in
theorem hxc_12 {xs : Nat → Int32} {L : Nat} : f_run a_MT xs L 5 [.ref 44] ([] ++ hx_9) (.inl none, [] ++ hx_26) := by
  refine r_of (ls := [.ref 44, a_dead]) MT_5 (by decide) rfl ?_
  refine r_aload_n (pc' := 1) (f_at inc_5 (j := 0) rfl) rfl rfl ?_
  refine r_obj (pc' := 4) (f_at inc_5 (j := 1) rfl) (by decide) rfl ?_
  refine r_aload_n (pc' := 5) (f_at inc_5 (j := 2) rfl) rfl rfl ?_
  refine r_bipush (pc' := 7) (f_at inc_5 (j := 3) rfl) cb_8 rfl ?_
  refine r_anew (pc' := 10) (c' := 56) (n' := 984) (z := 8) (m := 45) (B := 0) rfl (f_at inc_5 (j := 4) rfl) (by decide +kernel) rfl (by decide) ⟨by decide, by decide⟩ ⟨rfl, rfl, rfl⟩ ?_
  refine r_put (pc' := 13) (B := 0) rfl (j := 44) (f_at inc_5 (j := 5) rfl) rfl rfl ⟨by decide, rfl, rfl⟩ rfl ?_
  refine r_iconst (pc' := 14) (f_at inc_5 (j := 6) rfl) ci_0 rfl ?_
  refine r_istore_n (pc' := 15) (ls' := [.ref 44, .int (0 : Int32)]) (f_at inc_5 (j := 7) rfl) (by decide) rfl rfl ?_
  refine r_iload_n (pc' := 16) (f_at inc_5 (j := 8) rfl) rfl rfl ?_
  refine r_bipush (pc' := 18) (f_at inc_5 (j := 9) rfl) cb_8 rfl ?_
  refine r_icmp (pc' := 21) (bb := false) (f_at inc_5 (j := 10) rfl) (by decide +kernel) (by decide) ?_
  refine r_aload_n (pc' := 22) (f_at inc_5 (j := 11) rfl) rfl rfl ?_
  refine r_get (pc' := 25) (B := 0) rfl (v := .ref 45) (j := 44) (f_at inc_5 (j := 12) rfl) rfl rfl rfl rfl ?_
  refine r_iload_n (pc' := 26) (f_at inc_5 (j := 13) rfl) rfl rfl ?_
  refine r_new (pc' := 29) (c' := 55) (n' := 969) (B := 0) rfl (m := 46) (fs := [.int 0, .int 0, .null, .int 0, .null, .int 0, .null, .null, .null, .null, .int 0, .int 0, .int 0, .int 0, .int 0]) (f_at inc_5 (j := 14) rfl) (by decide) rfl (by decide) ⟨by decide, by decide⟩ rfl ⟨rfl, rfl, rfl⟩ ?_
  refine r_dup (pc' := 30) (f_at inc_5 (j := 15) rfl) rfl rfl ?_
  refine r_fold (t' := hx_10) rfl ?_
  refine r_kall (pc' := 33) (c' := 49) (n' := 861) (r := [.ref 46, .int (0 : Int32), .ref 45]) (r_spec (f_at inc_5 (j := 16) rfl) (by decide) MT_4 rfl ⟨by decide, by decide, by decide⟩) MT_4 (hxc_4) ⟨rfl, rfl, rfl, rfl⟩ ?_
  refine r_aast (pc' := 34) (z := 0) (B := 0) rfl (j := 45) (jq := 46) (f_at inc_5 (j := 17) rfl) rfl rfl rfl rfl (by decide +kernel) rfl ?_
  refine r_iinc (pc' := 37) (v := 1) (ls' := [.ref 44, .int (1 : Int32)]) (f_at inc_5 (j := 18) rfl) rfl (by decide +kernel) rfl rfl ?_
  refine r_goto (pc' := 15) (f_at inc_5 (j := 19) rfl) (by decide) ?_
  refine r_iload_n (pc' := 16) (f_at inc_5 (j := 8) rfl) rfl rfl ?_
  refine r_bipush (pc' := 18) (f_at inc_5 (j := 9) rfl) cb_8 rfl ?_
  refine r_icmp (pc' := 21) (bb := false) (f_at inc_5 (j := 10) rfl) (by decide +kernel) (by decide) ?_
  refine r_aload_n (pc' := 22) (f_at inc_5 (j := 11) rfl) rfl rfl ?_
  refine r_get (pc' := 25) (B := 0) rfl (v := .ref 45) (j := 44) (f_at inc_5 (j := 12) rfl) rfl rfl rfl rfl ?_
  refine r_iload_n (pc' := 26) (f_at inc_5 (j := 13) rfl) rfl rfl ?_
  refine r_new (pc' := 29) (c' := 48) (n' := 846) (B := 0) rfl (m := 53) (fs := [.int 0, .int 0, .null, .int 0, .null, .int 0, .null, .null, .null, .null, .int 0, .int 0, .int 0, .int 0, .int 0]) (f_at inc_5 (j := 14) rfl) (by decide) rfl (by decide) ⟨by decide, by decide⟩ rfl ⟨rfl, rfl, rfl⟩ ?_
  refine r_dup (pc' := 30) (f_at inc_5 (j := 15) rfl) rfl rfl ?_
  refine r_fold (t' := hx_12) rfl ?_
  refine r_kall (pc' := 33) (c' := 42) (n' := 738) (r := [.ref 53, .int (1 : Int32), .ref 45]) (r_spec (f_at inc_5 (j := 16) rfl) (by decide) MT_4 rfl ⟨by decide, by decide, by decide⟩) MT_4 (hxc_5) ⟨rfl, rfl, rfl, rfl⟩ ?_
  refine r_aast (pc' := 34) (z := 1) (B := 0) rfl (j := 45) (jq := 53) (f_at inc_5 (j := 17) rfl) rfl rfl rfl rfl (by decide +kernel) rfl ?_
  refine r_iinc (pc' := 37) (v := 2) (ls' := [.ref 44, .int (2 : Int32)]) (f_at inc_5 (j := 18) rfl) rfl (by decide +kernel) rfl rfl ?_
  refine r_goto (pc' := 15) (f_at inc_5 (j := 19) rfl) (by decide) ?_
  refine r_iload_n (pc' := 16) (f_at inc_5 (j := 8) rfl) rfl rfl ?_
  refine r_bipush (pc' := 18) (f_at inc_5 (j := 9) rfl) cb_8 rfl ?_
  refine r_icmp (pc' := 21) (bb := false) (f_at inc_5 (j := 10) rfl) (by decide +kernel) (by decide) ?_
  refine r_aload_n (pc' := 22) (f_at inc_5 (j := 11) rfl) rfl rfl ?_
  refine r_get (pc' := 25) (B := 0) rfl (v := .ref 45) (j := 44) (f_at inc_5 (j := 12) rfl) rfl rfl rfl rfl ?_
  refine r_iload_n (pc' := 26) (f_at inc_5 (j := 13) rfl) rfl rfl ?_
  refine r_new (pc' := 29) (c' := 41) (n' := 723) (B := 0) rfl (m := 60) (fs := [.int 0, .int 0, .null, .int 0, .null, .int 0, .null, .null, .null, .null, .int 0, .int 0, .int 0, .int 0, .int 0]) (f_at inc_5 (j := 14) rfl) (by decide) rfl (by decide) ⟨by decide, by decide⟩ rfl ⟨rfl, rfl, rfl⟩ ?_
  refine r_dup (pc' := 30) (f_at inc_5 (j := 15) rfl) rfl rfl ?_
  refine r_fold (t' := hx_14) rfl ?_
  refine r_kall (pc' := 33) (c' := 35) (n' := 615) (r := [.ref 60, .int (2 : Int32), .ref 45]) (r_spec (f_at inc_5 (j := 16) rfl) (by decide) MT_4 rfl ⟨by decide, by decide, by decide⟩) MT_4 (hxc_6) ⟨rfl, rfl, rfl, rfl⟩ ?_
  refine r_aast (pc' := 34) (z := 2) (B := 0) rfl (j := 45) (jq := 60) (f_at inc_5 (j := 17) rfl) rfl rfl rfl rfl (by decide +kernel) rfl ?_
  refine r_iinc (pc' := 37) (v := 3) (ls' := [.ref 44, .int (3 : Int32)]) (f_at inc_5 (j := 18) rfl) rfl (by decide +kernel) rfl rfl ?_
  refine r_goto (pc' := 15) (f_at inc_5 (j := 19) rfl) (by decide) ?_
  refine r_iload_n (pc' := 16) (f_at inc_5 (j := 8) rfl) rfl rfl ?_
  refine r_bipush (pc' := 18) (f_at inc_5 (j := 9) rfl) cb_8 rfl ?_
  refine r_icmp (pc' := 21) (bb := false) (f_at inc_5 (j := 10) rfl) (by decide +kernel) (by decide) ?_
  refine r_aload_n (pc' := 22) (f_at inc_5 (j := 11) rfl) rfl rfl ?_
  refine r_get (pc' := 25) (B := 0) rfl (v := .ref 45) (j := 44) (f_at inc_5 (j := 12) rfl) rfl rfl rfl rfl ?_
  refine r_iload_n (pc' := 26) (f_at inc_5 (j := 13) rfl) rfl rfl ?_
  refine r_new (pc' := 29) (c' := 34) (n' := 600) (B := 0) rfl (m := 67) (fs := [.int 0, .int 0, .null, .int 0, .null, .int 0, .null, .null, .null, .null, .int 0, .int 0, .int 0, .int 0, .int 0]) (f_at inc_5 (j := 14) rfl) (by decide) rfl (by decide) ⟨by decide, by decide⟩ rfl ⟨rfl, rfl, rfl⟩ ?_
  refine r_dup (pc' := 30) (f_at inc_5 (j := 15) rfl) rfl rfl ?_
  refine r_fold (t' := hx_16) rfl ?_
  refine r_kall (pc' := 33) (c' := 28) (n' := 492) (r := [.ref 67, .int (3 : Int32), .ref 45]) (r_spec (f_at inc_5 (j := 16) rfl) (by decide) MT_4 rfl ⟨by decide, by decide, by decide⟩) MT_4 (hxc_7) ⟨rfl, rfl, rfl, rfl⟩ ?_
  refine r_aast (pc' := 34) (z := 3) (B := 0) rfl (j := 45) (jq := 67) (f_at inc_5 (j := 17) rfl) rfl rfl rfl rfl (by decide +kernel) rfl ?_
  refine r_iinc (pc' := 37) (v := 4) (ls' := [.ref 44, .int (4 : Int32)]) (f_at inc_5 (j := 18) rfl) rfl (by decide +kernel) rfl rfl ?_
  refine r_goto (pc' := 15) (f_at inc_5 (j := 19) rfl) (by decide) ?_
  refine r_iload_n (pc' := 16) (f_at inc_5 (j := 8) rfl) rfl rfl ?_
  refine r_bipush (pc' := 18) (f_at inc_5 (j := 9) rfl) cb_8 rfl ?_
  refine r_icmp (pc' := 21) (bb := false) (f_at inc_5 (j := 10) rfl) (by decide +kernel) (by decide) ?_
  refine r_aload_n (pc' := 22) (f_at inc_5 (j := 11) rfl) rfl rfl ?_
  refine r_get (pc' := 25) (B := 0) rfl (v := .ref 45) (j := 44) (f_at inc_5 (j := 12) rfl) rfl rfl rfl rfl ?_
  refine r_iload_n (pc' := 26) (f_at inc_5 (j := 13) rfl) rfl rfl ?_
  refine r_new (pc' := 29) (c' := 27) (n' := 477) (B := 0) rfl (m := 74) (fs := [.int 0, .int 0, .null, .int 0, .null, .int 0, .null, .null, .null, .null, .int 0, .int 0, .int 0, .int 0, .int 0]) (f_at inc_5 (j := 14) rfl) (by decide) rfl (by decide) ⟨by decide, by decide⟩ rfl ⟨rfl, rfl, rfl⟩ ?_
  refine r_dup (pc' := 30) (f_at inc_5 (j := 15) rfl) rfl rfl ?_
  refine r_fold (t' := hx_18) rfl ?_
  refine r_kall (pc' := 33) (c' := 21) (n' := 369) (r := [.ref 74, .int (4 : Int32), .ref 45]) (r_spec (f_at inc_5 (j := 16) rfl) (by decide) MT_4 rfl ⟨by decide, by decide, by decide⟩) MT_4 (hxc_8) ⟨rfl, rfl, rfl, rfl⟩ ?_
  refine r_aast (pc' := 34) (z := 4) (B := 0) rfl (j := 45) (jq := 74) (f_at inc_5 (j := 17) rfl) rfl rfl rfl rfl (by decide +kernel) rfl ?_
  refine r_iinc (pc' := 37) (v := 5) (ls' := [.ref 44, .int (5 : Int32)]) (f_at inc_5 (j := 18) rfl) rfl (by decide +kernel) rfl rfl ?_
  refine r_goto (pc' := 15) (f_at inc_5 (j := 19) rfl) (by decide) ?_
  refine r_iload_n (pc' := 16) (f_at inc_5 (j := 8) rfl) rfl rfl ?_
  refine r_bipush (pc' := 18) (f_at inc_5 (j := 9) rfl) cb_8 rfl ?_
  refine r_icmp (pc' := 21) (bb := false) (f_at inc_5 (j := 10) rfl) (by decide +kernel) (by decide) ?_
  refine r_aload_n (pc' := 22) (f_at inc_5 (j := 11) rfl) rfl rfl ?_
  refine r_get (pc' := 25) (B := 0) rfl (v := .ref 45) (j := 44) (f_at inc_5 (j := 12) rfl) rfl rfl rfl rfl ?_
  refine r_iload_n (pc' := 26) (f_at inc_5 (j := 13) rfl) rfl rfl ?_
  refine r_new (pc' := 29) (c' := 20) (n' := 354) (B := 0) rfl (m := 81) (fs := [.int 0, .int 0, .null, .int 0, .null, .int 0, .null, .null, .null, .null, .int 0, .int 0, .int 0, .int 0, .int 0]) (f_at inc_5 (j := 14) rfl) (by decide) rfl (by decide) ⟨by decide, by decide⟩ rfl ⟨rfl, rfl, rfl⟩ ?_
  refine r_dup (pc' := 30) (f_at inc_5 (j := 15) rfl) rfl rfl ?_
  refine r_fold (t' := hx_20) rfl ?_
  refine r_kall (pc' := 33) (c' := 14) (n' := 246) (r := [.ref 81, .int (5 : Int32), .ref 45]) (r_spec (f_at inc_5 (j := 16) rfl) (by decide) MT_4 rfl ⟨by decide, by decide, by decide⟩) MT_4 (hxc_9) ⟨rfl, rfl, rfl, rfl⟩ ?_
  refine r_aast (pc' := 34) (z := 5) (B := 0) rfl (j := 45) (jq := 81) (f_at inc_5 (j := 17) rfl) rfl rfl rfl rfl (by decide +kernel) rfl ?_
  refine r_iinc (pc' := 37) (v := 6) (ls' := [.ref 44, .int (6 : Int32)]) (f_at inc_5 (j := 18) rfl) rfl (by decide +kernel) rfl rfl ?_
  refine r_goto (pc' := 15) (f_at inc_5 (j := 19) rfl) (by decide) ?_
  refine r_iload_n (pc' := 16) (f_at inc_5 (j := 8) rfl) rfl rfl ?_
  refine r_bipush (pc' := 18) (f_at inc_5 (j := 9) rfl) cb_8 rfl ?_
  refine r_icmp (pc' := 21) (bb := false) (f_at inc_5 (j := 10) rfl) (by decide +kernel) (by decide) ?_
  refine r_aload_n (pc' := 22) (f_at inc_5 (j := 11) rfl) rfl rfl ?_
  refine r_get (pc' := 25) (B := 0) rfl (v := .ref 45) (j := 44) (f_at inc_5 (j := 12) rfl) rfl rfl rfl rfl ?_
  refine r_iload_n (pc' := 26) (f_at inc_5 (j := 13) rfl) rfl rfl ?_
  refine r_new (pc' := 29) (c' := 13) (n' := 231) (B := 0) rfl (m := 88) (fs := [.int 0, .int 0, .null, .int 0, .null, .int 0, .null, .null, .null, .null, .int 0, .int 0, .int 0, .int 0, .int 0]) (f_at inc_5 (j := 14) rfl) (by decide) rfl (by decide) ⟨by decide, by decide⟩ rfl ⟨rfl, rfl, rfl⟩ ?_
  refine r_dup (pc' := 30) (f_at inc_5 (j := 15) rfl) rfl rfl ?_
  refine r_fold (t' := hx_22) rfl ?_
  refine r_kall (pc' := 33) (c' := 7) (n' := 123) (r := [.ref 88, .int (6 : Int32), .ref 45]) (r_spec (f_at inc_5 (j := 16) rfl) (by decide) MT_4 rfl ⟨by decide, by decide, by decide⟩) MT_4 (hxc_10) ⟨rfl, rfl, rfl, rfl⟩ ?_
  refine r_aast (pc' := 34) (z := 6) (B := 0) rfl (j := 45) (jq := 88) (f_at inc_5 (j := 17) rfl) rfl rfl rfl rfl (by decide +kernel) rfl ?_
  refine r_iinc (pc' := 37) (v := 7) (ls' := [.ref 44, .int (7 : Int32)]) (f_at inc_5 (j := 18) rfl) rfl (by decide +kernel) rfl rfl ?_
  refine r_goto (pc' := 15) (f_at inc_5 (j := 19) rfl) (by decide) ?_
  refine r_iload_n (pc' := 16) (f_at inc_5 (j := 8) rfl) rfl rfl ?_
  refine r_bipush (pc' := 18) (f_at inc_5 (j := 9) rfl) cb_8 rfl ?_
  refine r_icmp (pc' := 21) (bb := false) (f_at inc_5 (j := 10) rfl) (by decide +kernel) (by decide) ?_
  refine r_aload_n (pc' := 22) (f_at inc_5 (j := 11) rfl) rfl rfl ?_
  refine r_get (pc' := 25) (B := 0) rfl (v := .ref 45) (j := 44) (f_at inc_5 (j := 12) rfl) rfl rfl rfl rfl ?_
  refine r_iload_n (pc' := 26) (f_at inc_5 (j := 13) rfl) rfl rfl ?_
  refine r_new (pc' := 29) (c' := 6) (n' := 108) (B := 0) rfl (m := 95) (fs := [.int 0, .int 0, .null, .int 0, .null, .int 0, .null, .null, .null, .null, .int 0, .int 0, .int 0, .int 0, .int 0]) (f_at inc_5 (j := 14) rfl) (by decide) rfl (by decide) ⟨by decide, by decide⟩ rfl ⟨rfl, rfl, rfl⟩ ?_
  refine r_dup (pc' := 30) (f_at inc_5 (j := 15) rfl) rfl rfl ?_
  refine r_fold (t' := hx_24) rfl ?_
  refine r_kall (pc' := 33) (c' := 0) (n' := 0) (r := [.ref 95, .int (7 : Int32), .ref 45]) (r_spec (f_at inc_5 (j := 16) rfl) (by decide) MT_4 rfl ⟨by decide, by decide, by decide⟩) MT_4 (hxc_11) ⟨rfl, rfl, rfl, rfl⟩ ?_
  refine r_aast (pc' := 34) (z := 7) (B := 0) rfl (j := 45) (jq := 95) (f_at inc_5 (j := 17) rfl) rfl rfl rfl rfl (by decide +kernel) rfl ?_
  refine r_iinc (pc' := 37) (v := 8) (ls' := [.ref 44, .int (8 : Int32)]) (f_at inc_5 (j := 18) rfl) rfl (by decide +kernel) rfl rfl ?_
  refine r_goto (pc' := 15) (f_at inc_5 (j := 19) rfl) (by decide) ?_
  refine r_iload_n (pc' := 16) (f_at inc_5 (j := 8) rfl) rfl rfl ?_
  refine r_bipush (pc' := 18) (f_at inc_5 (j := 9) rfl) cb_8 rfl ?_
  refine r_icmp (pc' := 40) (bb := true) (f_at inc_5 (j := 10) rfl) (by decide +kernel) (by decide) ?_
  exact r_vret (f_at inc_5 (j := 20) rfl) rfl rfl
set_option maxRecDepth 100000 in
theorem hxc_13 {xs : Nat → Int32} {L : Nat} : f_run a_MT xs L 1 [.ref 103] ([] ++ hx_28) (.inl none, [] ++ hx_29) := by
  refine r_of (ls := [.ref 103]) MT_1 (by decide) rfl ?_
  refine r_aload_n (pc' := 1) (f_at inc_1 (j := 0) rfl) rfl rfl ?_
  refine r_obj (pc' := 4) (f_at inc_1 (j := 1) rfl) (by decide) rfl ?_
  refine r_aload_n (pc' := 5) (f_at inc_1 (j := 2) rfl) rfl rfl ?_
  refine r_bipush (pc' := 7) (f_at inc_1 (j := 3) rfl) cb_8 rfl ?_
  refine r_newarr (pc' := 9) (c' := 3) (n' := 59) (ty := .int) (els := .inl fun _ => 0) (z := 8) (m := 104) (B := 0) rfl (f_at inc_1 (j := 4) rfl) rfl rfl (by decide +kernel) rfl (by decide) ⟨by decide, by decide⟩ ⟨rfl, rfl, rfl⟩ ?_
  refine r_put (pc' := 12) (B := 0) rfl (j := 103) (f_at inc_1 (j := 5) rfl) rfl rfl ⟨by decide, rfl, rfl⟩ rfl ?_
  refine r_aload_n (pc' := 13) (f_at inc_1 (j := 6) rfl) rfl rfl ?_
  refine r_bipush (pc' := 15) (f_at inc_1 (j := 7) rfl) cb_48 rfl ?_
  refine r_newarr (pc' := 17) (c' := 2) (n' := 11) (ty := .byte) (els := .inl fun _ => 0) (z := 48) (m := 105) (B := 0) rfl (f_at inc_1 (j := 8) rfl) rfl rfl (by decide +kernel) rfl (by decide) ⟨by decide, by decide⟩ ⟨rfl, rfl, rfl⟩ ?_
  refine r_put (pc' := 20) (B := 0) rfl (j := 103) (f_at inc_1 (j := 9) rfl) rfl rfl ⟨by decide, rfl, rfl⟩ rfl ?_
  refine r_aload_n (pc' := 21) (f_at inc_1 (j := 10) rfl) rfl rfl ?_
  refine r_bipush (pc' := 23) (f_at inc_1 (j := 11) rfl) cb_8 rfl ?_
  refine r_newarr (pc' := 25) (c' := 1) (n' := 3) (ty := .int) (els := .inl fun _ => 0) (z := 8) (m := 106) (B := 0) rfl (f_at inc_1 (j := 12) rfl) rfl rfl (by decide +kernel) rfl (by decide) ⟨by decide, by decide⟩ ⟨rfl, rfl, rfl⟩ ?_
  refine r_put (pc' := 28) (B := 0) rfl (j := 103) (f_at inc_1 (j := 13) rfl) rfl rfl ⟨by decide, rfl, rfl⟩ rfl ?_
  refine r_aload_n (pc' := 29) (f_at inc_1 (j := 14) rfl) rfl rfl ?_
  refine r_iconst (pc' := 30) (f_at inc_1 (j := 15) rfl) ci_3 rfl ?_
  refine r_newarr (pc' := 32) (c' := 0) (n' := 0) (ty := .int) (els := .inl fun _ => 0) (z := 3) (m := 107) (B := 0) rfl (f_at inc_1 (j := 16) rfl) rfl rfl (by decide +kernel) rfl (by decide) ⟨by decide, by decide⟩ ⟨rfl, rfl, rfl⟩ ?_
  refine r_put (pc' := 35) (B := 0) rfl (j := 103) (f_at inc_1 (j := 17) rfl) rfl rfl ⟨by decide, rfl, rfl⟩ rfl ?_
  exact r_vret (f_at inc_1 (j := 18) rfl) rfl rfl
set_option maxRecDepth 100000 in
theorem hxc_14 {xs : Nat → Int32} {L : Nat} : f_run a_MT xs L 6 [.ref 108] ([] ++ hx_30) (.inl none, [] ++ hx_31) := by
  refine r_of (ls := [.ref 108]) MT_6 (by decide) rfl ?_
  refine r_aload_n (pc' := 1) (f_at inc_6 (j := 0) rfl) rfl rfl ?_
  refine r_obj (pc' := 4) (f_at inc_6 (j := 1) rfl) (by decide) rfl ?_
  refine r_aload_n (pc' := 5) (f_at inc_6 (j := 2) rfl) rfl rfl ?_
  refine r_sipush (pc' := 8) (f_at inc_6 (j := 3) rfl) cs_1000 rfl ?_
  refine r_newarr (pc' := 10) (c' := 11) (n' := 1200) (ty := .int) (els := .inl fun _ => 0) (z := 1000) (m := 109) (B := 0) rfl (f_at inc_6 (j := 4) rfl) rfl rfl (by decide +kernel) rfl (by decide) ⟨by decide, by decide⟩ ⟨rfl, rfl, rfl⟩ ?_
  refine r_put (pc' := 13) (B := 0) rfl (j := 108) (f_at inc_6 (j := 5) rfl) rfl rfl ⟨by decide, rfl, rfl⟩ rfl ?_
  refine r_aload_n (pc' := 14) (f_at inc_6 (j := 6) rfl) rfl rfl ?_
  refine r_sipush (pc' := 17) (f_at inc_6 (j := 7) rfl) cs_1000 rfl ?_
  refine r_newarr (pc' := 19) (c' := 10) (n' := 200) (ty := .int) (els := .inl fun _ => 0) (z := 1000) (m := 110) (B := 0) rfl (f_at inc_6 (j := 8) rfl) rfl rfl (by decide +kernel) rfl (by decide) ⟨by decide, by decide⟩ ⟨rfl, rfl, rfl⟩ ?_
  refine r_put (pc' := 22) (B := 0) rfl (j := 108) (f_at inc_6 (j := 9) rfl) rfl rfl ⟨by decide, rfl, rfl⟩ rfl ?_
  refine r_aload_n (pc' := 23) (f_at inc_6 (j := 10) rfl) rfl rfl ?_
  refine r_bipush (pc' := 25) (f_at inc_6 (j := 11) rfl) cb_20 rfl ?_
  refine r_newarr (pc' := 27) (c' := 9) (n' := 180) (ty := .boolean) (els := .inl fun _ => 0) (z := 20) (m := 111) (B := 0) rfl (f_at inc_6 (j := 12) rfl) rfl rfl (by decide +kernel) rfl (by decide) ⟨by decide, by decide⟩ ⟨rfl, rfl, rfl⟩ ?_
  refine r_put (pc' := 30) (B := 0) rfl (j := 108) (f_at inc_6 (j := 13) rfl) rfl rfl ⟨by decide, rfl, rfl⟩ rfl ?_
  refine r_aload_n (pc' := 31) (f_at inc_6 (j := 14) rfl) rfl rfl ?_
  refine r_bipush (pc' := 33) (f_at inc_6 (j := 15) rfl) cb_20 rfl ?_
  refine r_newarr (pc' := 35) (c' := 8) (n' := 160) (ty := .int) (els := .inl fun _ => 0) (z := 20) (m := 112) (B := 0) rfl (f_at inc_6 (j := 16) rfl) rfl rfl (by decide +kernel) rfl (by decide) ⟨by decide, by decide⟩ ⟨rfl, rfl, rfl⟩ ?_
  refine r_put (pc' := 38) (B := 0) rfl (j := 108) (f_at inc_6 (j := 17) rfl) rfl rfl ⟨by decide, rfl, rfl⟩ rfl ?_
  refine r_aload_n (pc' := 39) (f_at inc_6 (j := 18) rfl) rfl rfl ?_
  refine r_bipush (pc' := 41) (f_at inc_6 (j := 19) rfl) cb_20 rfl ?_
  refine r_newarr (pc' := 43) (c' := 7) (n' := 140) (ty := .int) (els := .inl fun _ => 0) (z := 20) (m := 113) (B := 0) rfl (f_at inc_6 (j := 20) rfl) rfl rfl (by decide +kernel) rfl (by decide) ⟨by decide, by decide⟩ ⟨rfl, rfl, rfl⟩ ?_
  refine r_put (pc' := 46) (B := 0) rfl (j := 108) (f_at inc_6 (j := 21) rfl) rfl rfl ⟨by decide, rfl, rfl⟩ rfl ?_
  refine r_aload_n (pc' := 47) (f_at inc_6 (j := 22) rfl) rfl rfl ?_
  refine r_bipush (pc' := 49) (f_at inc_6 (j := 23) rfl) cb_20 rfl ?_
  refine r_newarr (pc' := 51) (c' := 6) (n' := 120) (ty := .int) (els := .inl fun _ => 0) (z := 20) (m := 114) (B := 0) rfl (f_at inc_6 (j := 24) rfl) rfl rfl (by decide +kernel) rfl (by decide) ⟨by decide, by decide⟩ ⟨rfl, rfl, rfl⟩ ?_
  refine r_put (pc' := 54) (B := 0) rfl (j := 108) (f_at inc_6 (j := 25) rfl) rfl rfl ⟨by decide, rfl, rfl⟩ rfl ?_
  refine r_aload_n (pc' := 55) (f_at inc_6 (j := 26) rfl) rfl rfl ?_
  refine r_bipush (pc' := 57) (f_at inc_6 (j := 27) rfl) cb_20 rfl ?_
  refine r_newarr (pc' := 59) (c' := 5) (n' := 100) (ty := .int) (els := .inl fun _ => 0) (z := 20) (m := 115) (B := 0) rfl (f_at inc_6 (j := 28) rfl) rfl rfl (by decide +kernel) rfl (by decide) ⟨by decide, by decide⟩ ⟨rfl, rfl, rfl⟩ ?_
  refine r_put (pc' := 62) (B := 0) rfl (j := 108) (f_at inc_6 (j := 29) rfl) rfl rfl ⟨by decide, rfl, rfl⟩ rfl ?_
  refine r_aload_n (pc' := 63) (f_at inc_6 (j := 30) rfl) rfl rfl ?_
  refine r_bipush (pc' := 65) (f_at inc_6 (j := 31) rfl) cb_20 rfl ?_
  refine r_newarr (pc' := 67) (c' := 4) (n' := 80) (ty := .int) (els := .inl fun _ => 0) (z := 20) (m := 116) (B := 0) rfl (f_at inc_6 (j := 32) rfl) rfl rfl (by decide +kernel) rfl (by decide) ⟨by decide, by decide⟩ ⟨rfl, rfl, rfl⟩ ?_
  refine r_put (pc' := 70) (B := 0) rfl (j := 108) (f_at inc_6 (j := 33) rfl) rfl rfl ⟨by decide, rfl, rfl⟩ rfl ?_
  refine r_aload_n (pc' := 71) (f_at inc_6 (j := 34) rfl) rfl rfl ?_
  refine r_bipush (pc' := 73) (f_at inc_6 (j := 35) rfl) cb_20 rfl ?_
  refine r_newarr (pc' := 75) (c' := 3) (n' := 60) (ty := .int) (els := .inl fun _ => 0) (z := 20) (m := 117) (B := 0) rfl (f_at inc_6 (j := 36) rfl) rfl rfl (by decide +kernel) rfl (by decide) ⟨by decide, by decide⟩ ⟨rfl, rfl, rfl⟩ ?_
  refine r_put (pc' := 78) (B := 0) rfl (j := 108) (f_at inc_6 (j := 37) rfl) rfl rfl ⟨by decide, rfl, rfl⟩ rfl ?_
  refine r_aload_n (pc' := 79) (f_at inc_6 (j := 38) rfl) rfl rfl ?_
  refine r_bipush (pc' := 81) (f_at inc_6 (j := 39) rfl) cb_20 rfl ?_
  refine r_newarr (pc' := 83) (c' := 2) (n' := 40) (ty := .int) (els := .inl fun _ => 0) (z := 20) (m := 118) (B := 0) rfl (f_at inc_6 (j := 40) rfl) rfl rfl (by decide +kernel) rfl (by decide) ⟨by decide, by decide⟩ ⟨rfl, rfl, rfl⟩ ?_
  refine r_put (pc' := 86) (B := 0) rfl (j := 108) (f_at inc_6 (j := 41) rfl) rfl rfl ⟨by decide, rfl, rfl⟩ rfl ?_
  refine r_aload_n (pc' := 87) (f_at inc_6 (j := 42) rfl) rfl rfl ?_
  refine r_bipush (pc' := 89) (f_at inc_6 (j := 43) rfl) cb_20 rfl ?_
  refine r_newarr (pc' := 91) (c' := 1) (n' := 20) (ty := .int) (els := .inl fun _ => 0) (z := 20) (m := 119) (B := 0) rfl (f_at inc_6 (j := 44) rfl) rfl rfl (by decide +kernel) rfl (by decide) ⟨by decide, by decide⟩ ⟨rfl, rfl, rfl⟩ ?_
  refine r_put (pc' := 94) (B := 0) rfl (j := 108) (f_at inc_6 (j := 45) rfl) rfl rfl ⟨by decide, rfl, rfl⟩ rfl ?_
  refine r_aload_n (pc' := 95) (f_at inc_6 (j := 46) rfl) rfl rfl ?_
  refine r_bipush (pc' := 97) (f_at inc_6 (j := 47) rfl) cb_20 rfl ?_
  refine r_newarr (pc' := 99) (c' := 0) (n' := 0) (ty := .int) (els := .inl fun _ => 0) (z := 20) (m := 120) (B := 0) rfl (f_at inc_6 (j := 48) rfl) rfl rfl (by decide +kernel) rfl (by decide) ⟨by decide, by decide⟩ ⟨rfl, rfl, rfl⟩ ?_
  refine r_put (pc' := 102) (B := 0) rfl (j := 108) (f_at inc_6 (j := 49) rfl) rfl rfl ⟨by decide, rfl, rfl⟩ rfl ?_
  exact r_vret (f_at inc_6 (j := 50) rfl) rfl rfl
set_option maxRecDepth 100000 in
theorem hxc_15 {xs : Nat → Int32} {L : Nat} : f_run a_MT xs L 4 [.ref 121] ([] ++ hx_32) (.inl none, [] ++ hx_33) := by
  refine r_of (ls := [.ref 121]) MT_4 (by decide) rfl ?_
  refine r_aload_n (pc' := 1) (f_at inc_4 (j := 0) rfl) rfl rfl ?_
  refine r_obj (pc' := 4) (f_at inc_4 (j := 1) rfl) (by decide) rfl ?_
  refine r_aload_n (pc' := 5) (f_at inc_4 (j := 2) rfl) rfl rfl ?_
  refine r_bipush (pc' := 7) (f_at inc_4 (j := 3) rfl) cb_8 rfl ?_
  refine r_newarr (pc' := 9) (c' := 5) (n' := 100) (ty := .int) (els := .inl fun _ => 0) (z := 8) (m := 122) (B := 0) rfl (f_at inc_4 (j := 4) rfl) rfl rfl (by decide +kernel) rfl (by decide) ⟨by decide, by decide⟩ ⟨rfl, rfl, rfl⟩ ?_
  refine r_put (pc' := 12) (B := 0) rfl (j := 121) (f_at inc_4 (j := 5) rfl) rfl rfl ⟨by decide, rfl, rfl⟩ rfl ?_
  refine r_aload_n (pc' := 13) (f_at inc_4 (j := 6) rfl) rfl rfl ?_
  refine r_bipush (pc' := 15) (f_at inc_4 (j := 7) rfl) cb_20 rfl ?_
  refine r_newarr (pc' := 17) (c' := 4) (n' := 80) (ty := .boolean) (els := .inl fun _ => 0) (z := 20) (m := 123) (B := 0) rfl (f_at inc_4 (j := 8) rfl) rfl rfl (by decide +kernel) rfl (by decide) ⟨by decide, by decide⟩ ⟨rfl, rfl, rfl⟩ ?_
  refine r_put (pc' := 20) (B := 0) rfl (j := 121) (f_at inc_4 (j := 9) rfl) rfl rfl ⟨by decide, rfl, rfl⟩ rfl ?_
  refine r_aload_n (pc' := 21) (f_at inc_4 (j := 10) rfl) rfl rfl ?_
  refine r_bipush (pc' := 23) (f_at inc_4 (j := 11) rfl) cb_20 rfl ?_
  refine r_newarr (pc' := 25) (c' := 3) (n' := 60) (ty := .int) (els := .inl fun _ => 0) (z := 20) (m := 124) (B := 0) rfl (f_at inc_4 (j := 12) rfl) rfl rfl (by decide +kernel) rfl (by decide) ⟨by decide, by decide⟩ ⟨rfl, rfl, rfl⟩ ?_
  refine r_put (pc' := 28) (B := 0) rfl (j := 121) (f_at inc_4 (j := 13) rfl) rfl rfl ⟨by decide, rfl, rfl⟩ rfl ?_
  refine r_aload_n (pc' := 29) (f_at inc_4 (j := 14) rfl) rfl rfl ?_
  refine r_bipush (pc' := 31) (f_at inc_4 (j := 15) rfl) cb_20 rfl ?_
  refine r_newarr (pc' := 33) (c' := 2) (n' := 40) (ty := .int) (els := .inl fun _ => 0) (z := 20) (m := 125) (B := 0) rfl (f_at inc_4 (j := 16) rfl) rfl rfl (by decide +kernel) rfl (by decide) ⟨by decide, by decide⟩ ⟨rfl, rfl, rfl⟩ ?_
  refine r_put (pc' := 36) (B := 0) rfl (j := 121) (f_at inc_4 (j := 17) rfl) rfl rfl ⟨by decide, rfl, rfl⟩ rfl ?_
  refine r_aload_n (pc' := 37) (f_at inc_4 (j := 18) rfl) rfl rfl ?_
  refine r_bipush (pc' := 39) (f_at inc_4 (j := 19) rfl) cb_20 rfl ?_
  refine r_newarr (pc' := 41) (c' := 1) (n' := 20) (ty := .int) (els := .inl fun _ => 0) (z := 20) (m := 126) (B := 0) rfl (f_at inc_4 (j := 20) rfl) rfl rfl (by decide +kernel) rfl (by decide) ⟨by decide, by decide⟩ ⟨rfl, rfl, rfl⟩ ?_
  refine r_put (pc' := 44) (B := 0) rfl (j := 121) (f_at inc_4 (j := 21) rfl) rfl rfl ⟨by decide, rfl, rfl⟩ rfl ?_
  refine r_aload_n (pc' := 45) (f_at inc_4 (j := 22) rfl) rfl rfl ?_
  refine r_bipush (pc' := 47) (f_at inc_4 (j := 23) rfl) cb_20 rfl ?_
  refine r_newarr (pc' := 49) (c' := 0) (n' := 0) (ty := .int) (els := .inl fun _ => 0) (z := 20) (m := 127) (B := 0) rfl (f_at inc_4 (j := 24) rfl) rfl rfl (by decide +kernel) rfl (by decide) ⟨by decide, by decide⟩ ⟨rfl, rfl, rfl⟩ ?_
  refine r_put (pc' := 52) (B := 0) rfl (j := 121) (f_at inc_4 (j := 25) rfl) rfl rfl ⟨by decide, rfl, rfl⟩ rfl ?_
  exact r_vret (f_at inc_4 (j := 26) rfl) rfl rfl
set_option maxRecDepth 100000 in
theorem hxc_16 {xs : Nat → Int32} {L : Nat} : f_run a_MT xs L 4 [.ref 128] ([] ++ hx_34) (.inl none, [] ++ hx_35) := by
  refine r_of (ls := [.ref 128]) MT_4 (by decide) rfl ?_
  refine r_aload_n (pc' := 1) (f_at inc_4 (j := 0) rfl) rfl rfl ?_
  refine r_obj (pc' := 4) (f_at inc_4 (j := 1) rfl) (by decide) rfl ?_
  refine r_aload_n (pc' := 5) (f_at inc_4 (j := 2) rfl) rfl rfl ?_
  refine r_bipush (pc' := 7) (f_at inc_4 (j := 3) rfl) cb_8 rfl ?_
  refine r_newarr (pc' := 9) (c' := 5) (n' := 100) (ty := .int) (els := .inl fun _ => 0) (z := 8) (m := 129) (B := 0) rfl (f_at inc_4 (j := 4) rfl) rfl rfl (by decide +kernel) rfl (by decide) ⟨by decide, by decide⟩ ⟨rfl, rfl, rfl⟩ ?_
  refine r_put (pc' := 12) (B := 0) rfl (j := 128) (f_at inc_4 (j := 5) rfl) rfl rfl ⟨by decide, rfl, rfl⟩ rfl ?_
  refine r_aload_n (pc' := 13) (f_at inc_4 (j := 6) rfl) rfl rfl ?_
  refine r_bipush (pc' := 15) (f_at inc_4 (j := 7) rfl) cb_20 rfl ?_
  refine r_newarr (pc' := 17) (c' := 4) (n' := 80) (ty := .boolean) (els := .inl fun _ => 0) (z := 20) (m := 130) (B := 0) rfl (f_at inc_4 (j := 8) rfl) rfl rfl (by decide +kernel) rfl (by decide) ⟨by decide, by decide⟩ ⟨rfl, rfl, rfl⟩ ?_
  refine r_put (pc' := 20) (B := 0) rfl (j := 128) (f_at inc_4 (j := 9) rfl) rfl rfl ⟨by decide, rfl, rfl⟩ rfl ?_
  refine r_aload_n (pc' := 21) (f_at inc_4 (j := 10) rfl) rfl rfl ?_
  refine r_bipush (pc' := 23) (f_at inc_4 (j := 11) rfl) cb_20 rfl ?_
  refine r_newarr (pc' := 25) (c' := 3) (n' := 60) (ty := .int) (els := .inl fun _ => 0) (z := 20) (m := 131) (B := 0) rfl (f_at inc_4 (j := 12) rfl) rfl rfl (by decide +kernel) rfl (by decide) ⟨by decide, by decide⟩ ⟨rfl, rfl, rfl⟩ ?_
  refine r_put (pc' := 28) (B := 0) rfl (j := 128) (f_at inc_4 (j := 13) rfl) rfl rfl ⟨by decide, rfl, rfl⟩ rfl ?_
  refine r_aload_n (pc' := 29) (f_at inc_4 (j := 14) rfl) rfl rfl ?_
  refine r_bipush (pc' := 31) (f_at inc_4 (j := 15) rfl) cb_20 rfl ?_
  refine r_newarr (pc' := 33) (c' := 2) (n' := 40) (ty := .int) (els := .inl fun _ => 0) (z := 20) (m := 132) (B := 0) rfl (f_at inc_4 (j := 16) rfl) rfl rfl (by decide +kernel) rfl (by decide) ⟨by decide, by decide⟩ ⟨rfl, rfl, rfl⟩ ?_
  refine r_put (pc' := 36) (B := 0) rfl (j := 128) (f_at inc_4 (j := 17) rfl) rfl rfl ⟨by decide, rfl, rfl⟩ rfl ?_
  refine r_aload_n (pc' := 37) (f_at inc_4 (j := 18) rfl) rfl rfl ?_
  refine r_bipush (pc' := 39) (f_at inc_4 (j := 19) rfl) cb_20 rfl ?_
  refine r_newarr (pc' := 41) (c' := 1) (n' := 20) (ty := .int) (els := .inl fun _ => 0) (z := 20) (m := 133) (B := 0) rfl (f_at inc_4 (j := 20) rfl) rfl rfl (by decide +kernel) rfl (by decide) ⟨by decide, by decide⟩ ⟨rfl, rfl, rfl⟩ ?_
  refine r_put (pc' := 44) (B := 0) rfl (j := 128) (f_at inc_4 (j := 21) rfl) rfl rfl ⟨by decide, rfl, rfl⟩ rfl ?_
  refine r_aload_n (pc' := 45) (f_at inc_4 (j := 22) rfl) rfl rfl ?_
  refine r_bipush (pc' := 47) (f_at inc_4 (j := 23) rfl) cb_20 rfl ?_
  refine r_newarr (pc' := 49) (c' := 0) (n' := 0) (ty := .int) (els := .inl fun _ => 0) (z := 20) (m := 134) (B := 0) rfl (f_at inc_4 (j := 24) rfl) rfl rfl (by decide +kernel) rfl (by decide) ⟨by decide, by decide⟩ ⟨rfl, rfl, rfl⟩ ?_
  refine r_put (pc' := 52) (B := 0) rfl (j := 128) (f_at inc_4 (j := 25) rfl) rfl rfl ⟨by decide, rfl, rfl⟩ rfl ?_
  exact r_vret (f_at inc_4 (j := 26) rfl) rfl rfl
set_option maxRecDepth 100000 in
theorem hxc_17 {xs : Nat → Int32} {L : Nat} : f_run a_MT xs L 7 [.ref 102] ([] ++ hx_27) (.inl none, [] ++ hx_36) := by
  refine r_of (ls := [.ref 102]) MT_7 (by decide) rfl ?_
  refine r_aload_n (pc' := 1) (f_at inc_7 (j := 0) rfl) rfl rfl ?_
  refine r_obj (pc' := 4) (f_at inc_7 (j := 1) rfl) (by decide) rfl ?_
  refine r_aload_n (pc' := 5) (f_at inc_7 (j := 2) rfl) rfl rfl ?_
  refine r_new (pc' := 8) (c' := 31) (n' := 2525) (B := 0) rfl (m := 103) (fs := [.int 0, .null, .null, .null, .int 0, .null, .int 0]) (f_at inc_7 (j := 3) rfl) (by decide) rfl (by decide) ⟨by decide, by decide⟩ rfl ⟨rfl, rfl, rfl⟩ ?_
  refine r_dup (pc' := 9) (f_at inc_7 (j := 4) rfl) rfl rfl ?_
  refine r_fold (t' := hx_28) rfl ?_
  refine r_kall (pc' := 12) (c' := 27) (n' := 2458) (r := [.ref 103, .ref 102]) (r_spec (f_at inc_7 (j := 5) rfl) (by decide) MT_1 rfl ⟨by decide, by decide, by decide⟩) MT_1 (hxc_13) ⟨rfl, rfl, rfl, rfl⟩ ?_
  refine r_put (pc' := 15) (B := 0) rfl (j := 102) (f_at inc_7 (j := 6) rfl) rfl rfl ⟨by decide, rfl, rfl⟩ rfl ?_
  refine r_aload_n (pc' := 16) (f_at inc_7 (j := 7) rfl) rfl rfl ?_
  refine r_new (pc' := 19) (c' := 26) (n' := 2446) (B := 0) rfl (m := 108) (fs := [.null, .null, .null, .null, .null, .null, .null, .null, .null, .null, .null, .null]) (f_at inc_7 (j := 8) rfl) (by decide) rfl (by decide) ⟨by decide, by decide⟩ rfl ⟨rfl, rfl, rfl⟩ ?_
  refine r_dup (pc' := 20) (f_at inc_7 (j := 9) rfl) rfl rfl ?_
  refine r_fold (t' := hx_30) rfl ?_
  refine r_kall (pc' := 23) (c' := 14) (n' := 246) (r := [.ref 108, .ref 102]) (r_spec (f_at inc_7 (j := 10) rfl) (by decide) MT_6 rfl ⟨by decide, by decide, by decide⟩) MT_6 (hxc_14) ⟨rfl, rfl, rfl, rfl⟩ ?_
  refine r_put (pc' := 26) (B := 0) rfl (j := 102) (f_at inc_7 (j := 11) rfl) rfl rfl ⟨by decide, rfl, rfl⟩ rfl ?_
  refine r_aload_n (pc' := 27) (f_at inc_7 (j := 12) rfl) rfl rfl ?_
  refine r_new (pc' := 30) (c' := 13) (n' := 231) (B := 0) rfl (m := 121) (fs := [.int 0, .int 0, .null, .int 0, .null, .int 0, .null, .null, .null, .null, .int 0, .int 0, .int 0, .int 0, .int 0]) (f_at inc_7 (j := 13) rfl) (by decide) rfl (by decide) ⟨by decide, by decide⟩ rfl ⟨rfl, rfl, rfl⟩ ?_
  refine r_dup (pc' := 31) (f_at inc_7 (j := 14) rfl) rfl rfl ?_
  refine r_fold (t' := hx_32) rfl ?_
  refine r_kall (pc' := 34) (c' := 7) (n' := 123) (r := [.ref 121, .ref 102]) (r_spec (f_at inc_7 (j := 15) rfl) (by decide) MT_4 rfl ⟨by decide, by decide, by decide⟩) MT_4 (hxc_15) ⟨rfl, rfl, rfl, rfl⟩ ?_
  refine r_put (pc' := 37) (B := 0) rfl (j := 102) (f_at inc_7 (j := 16) rfl) rfl rfl ⟨by decide, rfl, rfl⟩ rfl ?_
  refine r_aload_n (pc' := 38) (f_at inc_7 (j := 17) rfl) rfl rfl ?_
  refine r_new (pc' := 41) (c' := 6) (n' := 108) (B := 0) rfl (m := 128) (fs := [.int 0, .int 0, .null, .int 0, .null, .int 0, .null, .null, .null, .null, .int 0, .int 0, .int 0, .int 0, .int 0]) (f_at inc_7 (j := 18) rfl) (by decide) rfl (by decide) ⟨by decide, by decide⟩ rfl ⟨rfl, rfl, rfl⟩ ?_
  refine r_dup (pc' := 42) (f_at inc_7 (j := 19) rfl) rfl rfl ?_
  refine r_fold (t' := hx_34) rfl ?_
  refine r_kall (pc' := 45) (c' := 0) (n' := 0) (r := [.ref 128, .ref 102]) (r_spec (f_at inc_7 (j := 20) rfl) (by decide) MT_4 rfl ⟨by decide, by decide, by decide⟩) MT_4 (hxc_16) ⟨rfl, rfl, rfl, rfl⟩ ?_
  refine r_put (pc' := 48) (B := 0) rfl (j := 102) (f_at inc_7 (j := 21) rfl) rfl rfl ⟨by decide, rfl, rfl⟩ rfl ?_
  exact r_vret (f_at inc_7 (j := 22) rfl) rfl rfl
set_option maxRecDepth 100000 in
theorem hxc_18 {xs : Nat → Int32} {L : Nat} : f_run a_MT xs L 6 [.ref 135] ([] ++ hx_37) (.inl none, [] ++ hx_38) := by
  refine r_of (ls := [.ref 135]) MT_6 (by decide) rfl ?_
  refine r_aload_n (pc' := 1) (f_at inc_6 (j := 0) rfl) rfl rfl ?_
  refine r_obj (pc' := 4) (f_at inc_6 (j := 1) rfl) (by decide) rfl ?_
  refine r_aload_n (pc' := 5) (f_at inc_6 (j := 2) rfl) rfl rfl ?_
  refine r_sipush (pc' := 8) (f_at inc_6 (j := 3) rfl) cs_1000 rfl ?_
  refine r_newarr (pc' := 10) (c' := 11) (n' := 1200) (ty := .int) (els := .inl fun _ => 0) (z := 1000) (m := 136) (B := 0) rfl (f_at inc_6 (j := 4) rfl) rfl rfl (by decide +kernel) rfl (by decide) ⟨by decide, by decide⟩ ⟨rfl, rfl, rfl⟩ ?_
  refine r_put (pc' := 13) (B := 0) rfl (j := 135) (f_at inc_6 (j := 5) rfl) rfl rfl ⟨by decide, rfl, rfl⟩ rfl ?_
  refine r_aload_n (pc' := 14) (f_at inc_6 (j := 6) rfl) rfl rfl ?_
  refine r_sipush (pc' := 17) (f_at inc_6 (j := 7) rfl) cs_1000 rfl ?_
  refine r_newarr (pc' := 19) (c' := 10) (n' := 200) (ty := .int) (els := .inl fun _ => 0) (z := 1000) (m := 137) (B := 0) rfl (f_at inc_6 (j := 8) rfl) rfl rfl (by decide +kernel) rfl (by decide) ⟨by decide, by decide⟩ ⟨rfl, rfl, rfl⟩ ?_
  refine r_put (pc' := 22) (B := 0) rfl (j := 135) (f_at inc_6 (j := 9) rfl) rfl rfl ⟨by decide, rfl, rfl⟩ rfl ?_
  refine r_aload_n (pc' := 23) (f_at inc_6 (j := 10) rfl) rfl rfl ?_
  refine r_bipush (pc' := 25) (f_at inc_6 (j := 11) rfl) cb_20 rfl ?_
  refine r_newarr (pc' := 27) (c' := 9) (n' := 180) (ty := .boolean) (els := .inl fun _ => 0) (z := 20) (m := 138) (B := 0) rfl (f_at inc_6 (j := 12) rfl) rfl rfl (by decide +kernel) rfl (by decide) ⟨by decide, by decide⟩ ⟨rfl, rfl, rfl⟩ ?_
  refine r_put (pc' := 30) (B := 0) rfl (j := 135) (f_at inc_6 (j := 13) rfl) rfl rfl ⟨by decide, rfl, rfl⟩ rfl ?_
  refine r_aload_n (pc' := 31) (f_at inc_6 (j := 14) rfl) rfl rfl ?_
  refine r_bipush (pc' := 33) (f_at inc_6 (j := 15) rfl) cb_20 rfl ?_
  refine r_newarr (pc' := 35) (c' := 8) (n' := 160) (ty := .int) (els := .inl fun _ => 0) (z := 20) (m := 139) (B := 0) rfl (f_at inc_6 (j := 16) rfl) rfl rfl (by decide +kernel) rfl (by decide) ⟨by decide, by decide⟩ ⟨rfl, rfl, rfl⟩ ?_
  refine r_put (pc' := 38) (B := 0) rfl (j := 135) (f_at inc_6 (j := 17) rfl) rfl rfl ⟨by decide, rfl, rfl⟩ rfl ?_
  refine r_aload_n (pc' := 39) (f_at inc_6 (j := 18) rfl) rfl rfl ?_
  refine r_bipush (pc' := 41) (f_at inc_6 (j := 19) rfl) cb_20 rfl ?_
  refine r_newarr (pc' := 43) (c' := 7) (n' := 140) (ty := .int) (els := .inl fun _ => 0) (z := 20) (m := 140) (B := 0) rfl (f_at inc_6 (j := 20) rfl) rfl rfl (by decide +kernel) rfl (by decide) ⟨by decide, by decide⟩ ⟨rfl, rfl, rfl⟩ ?_
  refine r_put (pc' := 46) (B := 0) rfl (j := 135) (f_at inc_6 (j := 21) rfl) rfl rfl ⟨by decide, rfl, rfl⟩ rfl ?_
  refine r_aload_n (pc' := 47) (f_at inc_6 (j := 22) rfl) rfl rfl ?_
  refine r_bipush (pc' := 49) (f_at inc_6 (j := 23) rfl) cb_20 rfl ?_
  refine r_newarr (pc' := 51) (c' := 6) (n' := 120) (ty := .int) (els := .inl fun _ => 0) (z := 20) (m := 141) (B := 0) rfl (f_at inc_6 (j := 24) rfl) rfl rfl (by decide +kernel) rfl (by decide) ⟨by decide, by decide⟩ ⟨rfl, rfl, rfl⟩ ?_
  refine r_put (pc' := 54) (B := 0) rfl (j := 135) (f_at inc_6 (j := 25) rfl) rfl rfl ⟨by decide, rfl, rfl⟩ rfl ?_
  refine r_aload_n (pc' := 55) (f_at inc_6 (j := 26) rfl) rfl rfl ?_
  refine r_bipush (pc' := 57) (f_at inc_6 (j := 27) rfl) cb_20 rfl ?_
  refine r_newarr (pc' := 59) (c' := 5) (n' := 100) (ty := .int) (els := .inl fun _ => 0) (z := 20) (m := 142) (B := 0) rfl (f_at inc_6 (j := 28) rfl) rfl rfl (by decide +kernel) rfl (by decide) ⟨by decide, by decide⟩ ⟨rfl, rfl, rfl⟩ ?_
  refine r_put (pc' := 62) (B := 0) rfl (j := 135) (f_at inc_6 (j := 29) rfl) rfl rfl ⟨by decide, rfl, rfl⟩ rfl ?_
  refine r_aload_n (pc' := 63) (f_at inc_6 (j := 30) rfl) rfl rfl ?_
  refine r_bipush (pc' := 65) (f_at inc_6 (j := 31) rfl) cb_20 rfl ?_
  refine r_newarr (pc' := 67) (c' := 4) (n' := 80) (ty := .int) (els := .inl fun _ => 0) (z := 20) (m := 143) (B := 0) rfl (f_at inc_6 (j := 32) rfl) rfl rfl (by decide +kernel) rfl (by decide) ⟨by decide, by decide⟩ ⟨rfl, rfl, rfl⟩ ?_
  refine r_put (pc' := 70) (B := 0) rfl (j := 135) (f_at inc_6 (j := 33) rfl) rfl rfl ⟨by decide, rfl, rfl⟩ rfl ?_
  refine r_aload_n (pc' := 71) (f_at inc_6 (j := 34) rfl) rfl rfl ?_
  refine r_bipush (pc' := 73) (f_at inc_6 (j := 35) rfl) cb_20 rfl ?_
  refine r_newarr (pc' := 75) (c' := 3) (n' := 60) (ty := .int) (els := .inl fun _ => 0) (z := 20) (m := 144) (B := 0) rfl (f_at inc_6 (j := 36) rfl) rfl rfl (by decide +kernel) rfl (by decide) ⟨by decide, by decide⟩ ⟨rfl, rfl, rfl⟩ ?_
  refine r_put (pc' := 78) (B := 0) rfl (j := 135) (f_at inc_6 (j := 37) rfl) rfl rfl ⟨by decide, rfl, rfl⟩ rfl ?_
  refine r_aload_n (pc' := 79) (f_at inc_6 (j := 38) rfl) rfl rfl ?_
  refine r_bipush (pc' := 81) (f_at inc_6 (j := 39) rfl) cb_20 rfl ?_
  refine r_newarr (pc' := 83) (c' := 2) (n' := 40) (ty := .int) (els := .inl fun _ => 0) (z := 20) (m := 145) (B := 0) rfl (f_at inc_6 (j := 40) rfl) rfl rfl (by decide +kernel) rfl (by decide) ⟨by decide, by decide⟩ ⟨rfl, rfl, rfl⟩ ?_
  refine r_put (pc' := 86) (B := 0) rfl (j := 135) (f_at inc_6 (j := 41) rfl) rfl rfl ⟨by decide, rfl, rfl⟩ rfl ?_
  refine r_aload_n (pc' := 87) (f_at inc_6 (j := 42) rfl) rfl rfl ?_
  refine r_bipush (pc' := 89) (f_at inc_6 (j := 43) rfl) cb_20 rfl ?_
  refine r_newarr (pc' := 91) (c' := 1) (n' := 20) (ty := .int) (els := .inl fun _ => 0) (z := 20) (m := 146) (B := 0) rfl (f_at inc_6 (j := 44) rfl) rfl rfl (by decide +kernel) rfl (by decide) ⟨by decide, by decide⟩ ⟨rfl, rfl, rfl⟩ ?_
  refine r_put (pc' := 94) (B := 0) rfl (j := 135) (f_at inc_6 (j := 45) rfl) rfl rfl ⟨by decide, rfl, rfl⟩ rfl ?_
  refine r_aload_n (pc' := 95) (f_at inc_6 (j := 46) rfl) rfl rfl ?_
  refine r_bipush (pc' := 97) (f_at inc_6 (j := 47) rfl) cb_20 rfl ?_
  refine r_newarr (pc' := 99) (c' := 0) (n' := 0) (ty := .int) (els := .inl fun _ => 0) (z := 20) (m := 147) (B := 0) rfl (f_at inc_6 (j := 48) rfl) rfl rfl (by decide +kernel) rfl (by decide) ⟨by decide, by decide⟩ ⟨rfl, rfl, rfl⟩ ?_
  refine r_put (pc' := 102) (B := 0) rfl (j := 135) (f_at inc_6 (j := 49) rfl) rfl rfl ⟨by decide, rfl, rfl⟩ rfl ?_
  exact r_vret (f_at inc_6 (j := 50) rfl) rfl rfl
set_option maxRecDepth 100000 in
theorem hxc_19 {xs : Nat → Int32} {L : Nat} : f_run a_MT xs L 4 [.ref 148] ([] ++ hx_39) (.inl none, [] ++ hx_40) := by
  refine r_of (ls := [.ref 148]) MT_4 (by decide) rfl ?_
  refine r_aload_n (pc' := 1) (f_at inc_4 (j := 0) rfl) rfl rfl ?_
  refine r_obj (pc' := 4) (f_at inc_4 (j := 1) rfl) (by decide) rfl ?_
  refine r_aload_n (pc' := 5) (f_at inc_4 (j := 2) rfl) rfl rfl ?_
  refine r_bipush (pc' := 7) (f_at inc_4 (j := 3) rfl) cb_8 rfl ?_
  refine r_newarr (pc' := 9) (c' := 5) (n' := 100) (ty := .int) (els := .inl fun _ => 0) (z := 8) (m := 149) (B := 0) rfl (f_at inc_4 (j := 4) rfl) rfl rfl (by decide +kernel) rfl (by decide) ⟨by decide, by decide⟩ ⟨rfl, rfl, rfl⟩ ?_
  refine r_put (pc' := 12) (B := 0) rfl (j := 148) (f_at inc_4 (j := 5) rfl) rfl rfl ⟨by decide, rfl, rfl⟩ rfl ?_
  refine r_aload_n (pc' := 13) (f_at inc_4 (j := 6) rfl) rfl rfl ?_
  refine r_bipush (pc' := 15) (f_at inc_4 (j := 7) rfl) cb_20 rfl ?_
  refine r_newarr (pc' := 17) (c' := 4) (n' := 80) (ty := .boolean) (els := .inl fun _ => 0) (z := 20) (m := 150) (B := 0) rfl (f_at inc_4 (j := 8) rfl) rfl rfl (by decide +kernel) rfl (by decide) ⟨by decide, by decide⟩ ⟨rfl, rfl, rfl⟩ ?_
  refine r_put (pc' := 20) (B := 0) rfl (j := 148) (f_at inc_4 (j := 9) rfl) rfl rfl ⟨by decide, rfl, rfl⟩ rfl ?_
  refine r_aload_n (pc' := 21) (f_at inc_4 (j := 10) rfl) rfl rfl ?_
  refine r_bipush (pc' := 23) (f_at inc_4 (j := 11) rfl) cb_20 rfl ?_
  refine r_newarr (pc' := 25) (c' := 3) (n' := 60) (ty := .int) (els := .inl fun _ => 0) (z := 20) (m := 151) (B := 0) rfl (f_at inc_4 (j := 12) rfl) rfl rfl (by decide +kernel) rfl (by decide) ⟨by decide, by decide⟩ ⟨rfl, rfl, rfl⟩ ?_
  refine r_put (pc' := 28) (B := 0) rfl (j := 148) (f_at inc_4 (j := 13) rfl) rfl rfl ⟨by decide, rfl, rfl⟩ rfl ?_
  refine r_aload_n (pc' := 29) (f_at inc_4 (j := 14) rfl) rfl rfl ?_
  refine r_bipush (pc' := 31) (f_at inc_4 (j := 15) rfl) cb_20 rfl ?_
  refine r_newarr (pc' := 33) (c' := 2) (n' := 40) (ty := .int) (els := .inl fun _ => 0) (z := 20) (m := 152) (B := 0) rfl (f_at inc_4 (j := 16) rfl) rfl rfl (by decide +kernel) rfl (by decide) ⟨by decide, by decide⟩ ⟨rfl, rfl, rfl⟩ ?_
  refine r_put (pc' := 36) (B := 0) rfl (j := 148) (f_at inc_4 (j := 17) rfl) rfl rfl ⟨by decide, rfl, rfl⟩ rfl ?_
  refine r_aload_n (pc' := 37) (f_at inc_4 (j := 18) rfl) rfl rfl ?_
  refine r_bipush (pc' := 39) (f_at inc_4 (j := 19) rfl) cb_20 rfl ?_
  refine r_newarr (pc' := 41) (c' := 1) (n' := 20) (ty := .int) (els := .inl fun _ => 0) (z := 20) (m := 153) (B := 0) rfl (f_at inc_4 (j := 20) rfl) rfl rfl (by decide +kernel) rfl (by decide) ⟨by decide, by decide⟩ ⟨rfl, rfl, rfl⟩ ?_
  refine r_put (pc' := 44) (B := 0) rfl (j := 148) (f_at inc_4 (j := 21) rfl) rfl rfl ⟨by decide, rfl, rfl⟩ rfl ?_
  refine r_aload_n (pc' := 45) (f_at inc_4 (j := 22) rfl) rfl rfl ?_
  refine r_bipush (pc' := 47) (f_at inc_4 (j := 23) rfl) cb_20 rfl ?_
  refine r_newarr (pc' := 49) (c' := 0) (n' := 0) (ty := .int) (els := .inl fun _ => 0) (z := 20) (m := 154) (B := 0) rfl (f_at inc_4 (j := 24) rfl) rfl rfl (by decide +kernel) rfl (by decide) ⟨by decide, by decide⟩ ⟨rfl, rfl, rfl⟩ ?_
  refine r_put (pc' := 52) (B := 0) rfl (j := 148) (f_at inc_4 (j := 25) rfl) rfl rfl ⟨by decide, rfl, rfl⟩ rfl ?_
  exact r_vret (f_at inc_4 (j := 26) rfl) rfl rfl
def f_s0 : f_M := fun a i => if a = 3 then (if i = 0 then 4 else if i = 7 then -1 else 0) else 0
theorem hx_chain : (va_up (va_up (va_up (va_up (va_up (va_up (va_up (va_up (fun _ => none) 0 (some 46)) 1 (some 53)) 2 (some 60)) 3 (some 67)) 4 (some 74)) 5 (some 81)) 6 (some 88)) 7 (some 95)) = fun i => if i < 8 then some (46 + 7 * i) else none := by
  funext i
  by_cases h : i < 8
  · rw [if_pos h]
    match i, h with
    | 0, _ => rfl
    | 1, _ => rfl
    | 2, _ => rfl
    | 3, _ => rfl
    | 4, _ => rfl
    | 5, _ => rfl
    | 6, _ => rfl
    | 7, _ => rfl
  · rw [if_neg h]
    simp only [va_up]
    repeat rw [if_neg (by omega)]
set_option maxRecDepth 100000 in
theorem hx_end : [] ++ hx_41 = f_hp 155 f_s0 := by
  unfold hx_41
  rw [hx_chain]
  rfl
def g_34 (σ : f_M) : Option f_M :=
  (f_lp (fun (s1 : Int32 × f_M) =>
   if (f_sl 0) ≤ s1.1 then (
    some (.inr s1.2)
   ) else (
    if (600 : Int32) ≤ s1.1 then (
     some (.inr s1.2)
    ) else (
     (f_ch 0 s1.1).bind fun v2 =>
     (f_wr s1.2 1 600 s1.1 ((v2).toInt8.toInt32).toInt8.toInt32).bind fun m3 =>
     some (.inl ((s1.1 + (1 : Int32)), (f_up m3 0 1 (s1.1 + (1 : Int32)))))
    )
   )
  ) f_F ((0 : Int32), σ)).bind fun (x1 : f_M) =>
  (g_33  x1).bind fun t6 =>
  some t6.2
set_option maxRecDepth 4000 in
theorem G_34 {xs : Nat → Int32} {L : Nat} (σ : f_M) : f_Sim a_MT xs L 155 155 md_34 142 [.ref 0, a_dead] [] σ 0 0 ((g_34 σ).bind fun t => some (e_wv t)) := by
  have hN : 155 ≤ 155 := Nat.le_refl _
  unfold g_34
  refine i_iconst (pc' := 143) (f_at inc_34 (j := 65) rfl) ci_0 rfl ?_
  refine i_istore_n (pc' := 144) (ls' := [.ref 0, .int (0 : Int32)]) (f_at inc_34 (j := 66) rfl) (Nat.le_of_ble_eq_true rfl) rfl rfl ?_
  refine s_lX (X := 186) ((0 : Int32), σ) () (fun (s1 : Int32 × f_M) (u1 : Unit) => [.ref 0, .int s1.1]) (fun (s1 : Int32 × f_M) => s1.2) (fun (x1 : f_M) (w1 : Value) => [.ref 0, w1]) (fun (x1 : f_M) => x1) ?_ ?_
  · intro x1 w1
    refine i_aload_n (pc' := 187) (f_at inc_34 (j := 89) rfl) rfl rfl ?_
    refine c_wi (pc' := 190) (c' := 0) (n' := 0) (h_virt (ra := [.ref 0]) (r := []) (as := []) (f_at inc_34 (j := 90) rfl) (by decide) MT_33 rfl rfl rfl ⟨Nat.le_of_ble_eq_true rfl, Nat.le_of_ble_eq_true rfl, Nat.le_of_ble_eq_true rfl⟩ sh_0 (f_lt (o := 0) (m := 155) (Nat.le_of_ble_eq_true rfl) hN)) MT_33 (G_33 hN  x1) ⟨rfl, rfl, rfl⟩ fun t6 => ?_
    refine i_pop (pc' := 191) (f_at inc_34 (j := 91) rfl) rfl rfl ?_
    exact i_vret (f_at inc_34 (j := 92) rfl) rfl
  · intro s1 u1 k1 hb1 hx1
    refine i_iload_n (pc' := 145) (f_at inc_34 (j := 67) rfl) rfl rfl ?_
    refine i_ldc (pc' := 147) (f_at inc_34 (j := 68) rfl) rfl ?_
    refine i_slen (pc' := 150) (f_at inc_34 (j := 69) rfl) (by decide) (Nat.le_of_ble_eq_true rfl) rfl ?_
    refine i_if2 (pc' := 186) (nx := 153) c2_ge (f_at inc_34 (j := 70) rfl) ⟨by decide, rfl⟩ (fun b5 => ?_) (fun b5 => ?_)
    · exact hx1 s1.2 (.int s1.1)
    · refine i_iload_n (pc' := 154) (f_at inc_34 (j := 71) rfl) rfl rfl ?_
      refine i_sipush (pc' := 157) (f_at inc_34 (j := 72) rfl) cs_600 rfl ?_
      refine i_if2 (pc' := 186) (nx := 160) c2_ge (f_at inc_34 (j := 73) rfl) ⟨by decide, rfl⟩ (fun b4 => ?_) (fun b4 => ?_)
      · exact hx1 s1.2 (.int s1.1)
      · refine i_aload_n (pc' := 161) (f_at inc_34 (j := 74) rfl) rfl rfl ?_
        refine i_getR (pc' := 164) (f_at inc_34 (j := 75) rfl) sh_0 rfl (f_lt (o := 0) (m := 155) (Nat.le_of_ble_eq_true rfl) hN) rfl ?_
        refine i_iload_n (pc' := 165) (f_at inc_34 (j := 76) rfl) rfl rfl ?_
        refine i_ldc (pc' := 167) (f_at inc_34 (j := 77) rfl) rfl ?_
        refine i_iload_n (pc' := 168) (f_at inc_34 (j := 78) rfl) rfl rfl ?_
        refine i_scha (pc' := 171) (f_at inc_34 (j := 79) rfl) (by decide) (Nat.le_of_ble_eq_true rfl) rfl fun v2 => ?_
        refine i_i2b (pc' := 172) (f_at inc_34 (j := 80) rfl) rfl ?_
        refine i_bast (pc' := 173) (f_at inc_34 (j := 81) rfl) sh_1 (Or.inl rfl) rfl (f_lt (o := 1) (m := 155) (Nat.le_of_ble_eq_true rfl) hN) rfl fun m3 => ?_
        refine i_aload_n (pc' := 174) (f_at inc_34 (j := 82) rfl) rfl rfl ?_
        refine i_iload_n (pc' := 175) (f_at inc_34 (j := 83) rfl) rfl rfl ?_
        refine i_iconst (pc' := 176) (f_at inc_34 (j := 84) rfl) ci_1 rfl ?_
        refine i_iadd (pc' := 177) (f_at inc_34 (j := 85) rfl) rfl ?_
        refine i_putI (pc' := 180) (f_at inc_34 (j := 86) rfl) sh_0 rfl ⟨rfl, rfl⟩ (f_lt (o := 0) (m := 155) (Nat.le_of_ble_eq_true rfl) hN) rfl ?_
        refine i_iinc (pc' := 183) (ls' := [.ref 0, .int (s1.1 + (1 : Int32))]) (f_at inc_34 (j := 87) rfl) rfl ci_1 rfl rfl ?_
        refine i_goto (pc' := 144) (f_at inc_34 (j := 88) rfl) (by decide) ?_
        exact hb1 ((s1.1 + (1 : Int32)), (f_up m3 0 1 (s1.1 + (1 : Int32)))) ()
set_option maxRecDepth 100000 in
theorem K_34 {xs : Nat → Int32} {L : Nat} {σ : f_M} (h : g_34 f_s0 = some σ) : f_run a_MT xs L 34 [.ref 0] ([] ++ hx_0) (.inl none, f_hp 155 σ) := by
  refine r_of (ls := [.ref 0, a_dead]) MT_34 (by decide) rfl ?_
  refine r_aload_n (pc' := 1) (f_at inc_34 (j := 0) rfl) rfl rfl ?_
  refine r_obj (pc' := 4) (f_at inc_34 (j := 1) rfl) (by decide) rfl ?_
  refine r_aload_n (pc' := 5) (f_at inc_34 (j := 2) rfl) rfl rfl ?_
  refine r_sipush (pc' := 8) (f_at inc_34 (j := 3) rfl) cs_600 rfl ?_
  refine r_newarr (pc' := 10) (c' := 153) (n' := 6232) (ty := .byte) (els := .inl fun _ => 0) (z := 600) (m := 1) (B := 0) rfl (f_at inc_34 (j := 4) rfl) rfl rfl (by decide +kernel) rfl (by decide) ⟨by decide, by decide⟩ ⟨rfl, rfl, rfl⟩ ?_
  refine r_put (pc' := 13) (B := 0) rfl (j := 0) (f_at inc_34 (j := 5) rfl) rfl rfl ⟨by decide, rfl, rfl⟩ rfl ?_
  refine r_aload_n (pc' := 14) (f_at inc_34 (j := 6) rfl) rfl rfl ?_
  refine r_bipush (pc' := 16) (f_at inc_34 (j := 7) rfl) cb_16 rfl ?_
  refine r_newarr (pc' := 18) (c' := 152) (n' := 6216) (ty := .byte) (els := .inl fun _ => 0) (z := 16) (m := 2) (B := 0) rfl (f_at inc_34 (j := 8) rfl) rfl rfl (by decide +kernel) rfl (by decide) ⟨by decide, by decide⟩ ⟨rfl, rfl, rfl⟩ ?_
  refine r_put (pc' := 21) (B := 0) rfl (j := 0) (f_at inc_34 (j := 9) rfl) rfl rfl ⟨by decide, rfl, rfl⟩ rfl ?_
  refine r_aload_n (pc' := 22) (f_at inc_34 (j := 10) rfl) rfl rfl ?_
  refine r_new (pc' := 25) (c' := 151) (n' := 6208) (B := 0) rfl (m := 3) (fs := [.null, .int 0, .int 0, .int 0, .int 0, .int 0, .int 0, .int 0]) (f_at inc_34 (j := 11) rfl) (by decide) rfl (by decide) ⟨by decide, by decide⟩ rfl ⟨rfl, rfl, rfl⟩ ?_
  refine r_dup (pc' := 26) (f_at inc_34 (j := 12) rfl) rfl rfl ?_
  refine r_fold (t' := hx_1) rfl ?_
  refine r_kall (pc' := 29) (c' := 150) (n' := 6208) (r := [.ref 3, .ref 0]) (r_spec (f_at inc_34 (j := 13) rfl) (by decide) MT_0 rfl ⟨by decide, by decide, by decide⟩) MT_0 (hxc_0) ⟨rfl, rfl, rfl, rfl⟩ ?_
  refine r_put (pc' := 32) (B := 0) rfl (j := 0) (f_at inc_34 (j := 14) rfl) rfl rfl ⟨by decide, rfl, rfl⟩ rfl ?_
  refine r_aload_n (pc' := 33) (f_at inc_34 (j := 15) rfl) rfl rfl ?_
  refine r_new (pc' := 36) (c' := 149) (n' := 6201) (B := 0) rfl (m := 5) (fs := [.int 0, .null, .null, .null, .int 0, .null, .int 0]) (f_at inc_34 (j := 16) rfl) (by decide) rfl (by decide) ⟨by decide, by decide⟩ rfl ⟨rfl, rfl, rfl⟩ ?_
  refine r_dup (pc' := 37) (f_at inc_34 (j := 17) rfl) rfl rfl ?_
  refine r_fold (t' := hx_3) rfl ?_
  refine r_kall (pc' := 40) (c' := 145) (n' := 6134) (r := [.ref 5, .ref 0]) (r_spec (f_at inc_34 (j := 18) rfl) (by decide) MT_1 rfl ⟨by decide, by decide, by decide⟩) MT_1 (hxc_1) ⟨rfl, rfl, rfl, rfl⟩ ?_
  refine r_put (pc' := 43) (B := 0) rfl (j := 0) (f_at inc_34 (j := 19) rfl) rfl rfl ⟨by decide, rfl, rfl⟩ rfl ?_
  refine r_aload_n (pc' := 44) (f_at inc_34 (j := 20) rfl) rfl rfl ?_
  refine r_new (pc' := 47) (c' := 144) (n' := 6132) (B := 0) rfl (m := 10) (fs := [.null, .int 0]) (f_at inc_34 (j := 21) rfl) (by decide) rfl (by decide) ⟨by decide, by decide⟩ rfl ⟨rfl, rfl, rfl⟩ ?_
  refine r_dup (pc' := 48) (f_at inc_34 (j := 22) rfl) rfl rfl ?_
  refine r_fold (t' := hx_5) rfl ?_
  refine r_kall (pc' := 51) (c' := 113) (n' := 5892) (r := [.ref 10, .ref 0]) (r_spec (f_at inc_34 (j := 23) rfl) (by decide) MT_2 rfl ⟨by decide, by decide, by decide⟩) MT_2 (hxc_2) ⟨rfl, rfl, rfl, rfl⟩ ?_
  refine r_put (pc' := 54) (B := 0) rfl (j := 0) (f_at inc_34 (j := 24) rfl) rfl rfl ⟨by decide, rfl, rfl⟩ rfl ?_
  refine r_aload_n (pc' := 55) (f_at inc_34 (j := 25) rfl) rfl rfl ?_
  refine r_new (pc' := 58) (c' := 112) (n' := 5890) (B := 0) rfl (m := 42) (fs := [.null, .int 0]) (f_at inc_34 (j := 26) rfl) (by decide) rfl (by decide) ⟨by decide, by decide⟩ rfl ⟨rfl, rfl, rfl⟩ ?_
  refine r_dup (pc' := 59) (f_at inc_34 (j := 27) rfl) rfl rfl ?_
  refine r_fold (t' := hx_7) rfl ?_
  refine r_kall (pc' := 62) (c' := 111) (n' := 5866) (r := [.ref 42, .ref 0]) (r_spec (f_at inc_34 (j := 28) rfl) (by decide) MT_3 rfl ⟨by decide, by decide, by decide⟩) MT_3 (hxc_3) ⟨rfl, rfl, rfl, rfl⟩ ?_
  refine r_put (pc' := 65) (B := 0) rfl (j := 0) (f_at inc_34 (j := 29) rfl) rfl rfl ⟨by decide, rfl, rfl⟩ rfl ?_
  refine r_aload_n (pc' := 66) (f_at inc_34 (j := 30) rfl) rfl rfl ?_
  refine r_new (pc' := 69) (c' := 110) (n' := 5863) (B := 0) rfl (m := 44) (fs := [.null, .int 0, .int 0]) (f_at inc_34 (j := 31) rfl) (by decide) rfl (by decide) ⟨by decide, by decide⟩ rfl ⟨rfl, rfl, rfl⟩ ?_
  refine r_dup (pc' := 70) (f_at inc_34 (j := 32) rfl) rfl rfl ?_
  refine r_fold (t' := hx_9) rfl ?_
  refine r_kall (pc' := 73) (c' := 53) (n' := 4871) (r := [.ref 44, .ref 0]) (r_spec (f_at inc_34 (j := 33) rfl) (by decide) MT_5 rfl ⟨by decide, by decide, by decide⟩) MT_5 (hxc_12) ⟨rfl, rfl, rfl, rfl⟩ ?_
  refine r_put (pc' := 76) (B := 0) rfl (j := 0) (f_at inc_34 (j := 34) rfl) rfl rfl ⟨by decide, rfl, rfl⟩ rfl ?_
  refine r_aload_n (pc' := 77) (f_at inc_34 (j := 35) rfl) rfl rfl ?_
  refine r_new (pc' := 80) (c' := 52) (n' := 4867) (B := 0) rfl (m := 102) (fs := [.null, .null, .null, .null]) (f_at inc_34 (j := 36) rfl) (by decide) rfl (by decide) ⟨by decide, by decide⟩ rfl ⟨rfl, rfl, rfl⟩ ?_
  refine r_dup (pc' := 81) (f_at inc_34 (j := 37) rfl) rfl rfl ?_
  refine r_fold (t' := hx_27) rfl ?_
  refine r_kall (pc' := 84) (c' := 20) (n' := 2335) (r := [.ref 102, .ref 0]) (r_spec (f_at inc_34 (j := 38) rfl) (by decide) MT_7 rfl ⟨by decide, by decide, by decide⟩) MT_7 (hxc_17) ⟨rfl, rfl, rfl, rfl⟩ ?_
  refine r_put (pc' := 87) (B := 0) rfl (j := 0) (f_at inc_34 (j := 39) rfl) rfl rfl ⟨by decide, rfl, rfl⟩ rfl ?_
  refine r_aload_n (pc' := 88) (f_at inc_34 (j := 40) rfl) rfl rfl ?_
  refine r_aload_n (pc' := 89) (f_at inc_34 (j := 41) rfl) rfl rfl ?_
  refine r_get (pc' := 92) (B := 0) rfl (v := .ref 102) (j := 0) (f_at inc_34 (j := 42) rfl) rfl rfl rfl rfl ?_
  refine r_get (pc' := 95) (B := 0) rfl (v := .ref 103) (j := 102) (f_at inc_34 (j := 43) rfl) rfl rfl rfl rfl ?_
  refine r_put (pc' := 98) (B := 0) rfl (j := 0) (f_at inc_34 (j := 44) rfl) rfl rfl ⟨by decide, rfl, rfl⟩ rfl ?_
  refine r_aload_n (pc' := 99) (f_at inc_34 (j := 45) rfl) rfl rfl ?_
  refine r_aload_n (pc' := 100) (f_at inc_34 (j := 46) rfl) rfl rfl ?_
  refine r_get (pc' := 103) (B := 0) rfl (v := .ref 102) (j := 0) (f_at inc_34 (j := 47) rfl) rfl rfl rfl rfl ?_
  refine r_get (pc' := 106) (B := 0) rfl (v := .ref 108) (j := 102) (f_at inc_34 (j := 48) rfl) rfl rfl rfl rfl ?_
  refine r_put (pc' := 109) (B := 0) rfl (j := 0) (f_at inc_34 (j := 49) rfl) rfl rfl ⟨by decide, rfl, rfl⟩ rfl ?_
  refine r_aload_n (pc' := 110) (f_at inc_34 (j := 50) rfl) rfl rfl ?_
  refine r_aload_n (pc' := 111) (f_at inc_34 (j := 51) rfl) rfl rfl ?_
  refine r_get (pc' := 114) (B := 0) rfl (v := .ref 102) (j := 0) (f_at inc_34 (j := 52) rfl) rfl rfl rfl rfl ?_
  refine r_get (pc' := 117) (B := 0) rfl (v := .ref 121) (j := 102) (f_at inc_34 (j := 53) rfl) rfl rfl rfl rfl ?_
  refine r_put (pc' := 120) (B := 0) rfl (j := 0) (f_at inc_34 (j := 54) rfl) rfl rfl ⟨by decide, rfl, rfl⟩ rfl ?_
  refine r_aload_n (pc' := 121) (f_at inc_34 (j := 55) rfl) rfl rfl ?_
  refine r_new (pc' := 124) (c' := 19) (n' := 2323) (B := 0) rfl (m := 135) (fs := [.null, .null, .null, .null, .null, .null, .null, .null, .null, .null, .null, .null]) (f_at inc_34 (j := 56) rfl) (by decide) rfl (by decide) ⟨by decide, by decide⟩ rfl ⟨rfl, rfl, rfl⟩ ?_
  refine r_dup (pc' := 125) (f_at inc_34 (j := 57) rfl) rfl rfl ?_
  refine r_fold (t' := hx_37) rfl ?_
  refine r_kall (pc' := 128) (c' := 7) (n' := 123) (r := [.ref 135, .ref 0]) (r_spec (f_at inc_34 (j := 58) rfl) (by decide) MT_6 rfl ⟨by decide, by decide, by decide⟩) MT_6 (hxc_18) ⟨rfl, rfl, rfl, rfl⟩ ?_
  refine r_put (pc' := 131) (B := 0) rfl (j := 0) (f_at inc_34 (j := 59) rfl) rfl rfl ⟨by decide, rfl, rfl⟩ rfl ?_
  refine r_aload_n (pc' := 132) (f_at inc_34 (j := 60) rfl) rfl rfl ?_
  refine r_new (pc' := 135) (c' := 6) (n' := 108) (B := 0) rfl (m := 148) (fs := [.int 0, .int 0, .null, .int 0, .null, .int 0, .null, .null, .null, .null, .int 0, .int 0, .int 0, .int 0, .int 0]) (f_at inc_34 (j := 61) rfl) (by decide) rfl (by decide) ⟨by decide, by decide⟩ rfl ⟨rfl, rfl, rfl⟩ ?_
  refine r_dup (pc' := 136) (f_at inc_34 (j := 62) rfl) rfl rfl ?_
  refine r_fold (t' := hx_39) rfl ?_
  refine r_kall (pc' := 139) (c' := 0) (n' := 0) (r := [.ref 148, .ref 0]) (r_spec (f_at inc_34 (j := 63) rfl) (by decide) MT_4 rfl ⟨by decide, by decide, by decide⟩) MT_4 (hxc_19) ⟨rfl, rfl, rfl, rfl⟩ ?_
  refine r_put (pc' := 142) (B := 0) rfl (j := 0) (f_at inc_34 (j := 64) rfl) rfl rfl ⟨by decide, rfl, rfl⟩ rfl ?_
  refine r_fold (t' := hx_41) rfl ?_
  rw [hx_end]
  exact r_sim (w9 := e_wv σ) (G_34 f_s0) (by rw [h]; rfl)
def hm_0 : a_H := [.inr (9, [.null, .null, .null, .null, .null, .null, .null, .null, .null, .null, .null, .null, .null, .null, .null, .null, .null, .null, .null, .null, .null, .null, .int 0, .int 0, .int 0, .int 0, .int 0, .int 0, .int 0, .int 0, .int 0, .int 0, .int 0])]
def hm_1 : a_H := [.inr (9, [.ref 156, .ref 157, .ref 158, .ref 159, .ref 160, .ref 161, .ref 162, .ref 163, .ref 164, .ref 165, .ref 166, .ref 167, .ref 168, .ref 169, .ref 170, .ref 171, .ref 172, .ref 173, .ref 174, .ref 178, .ref 179, .ref 180, .int 0, .int 0, .int 0, .int 0, .int 0, .int 0, .int 0, .int 0, .int 0, .int 0, .int 0]),
  .inl (.int, 4, .inl fun _ => 0),
  .inl (.int, 4, .inl fun _ => 0),
  .inl (.int, 3, .inl fun _ => 0),
  .inl (.int, 20, .inl fun _ => 0),
  .inl (.int, 20, .inl fun _ => 0),
  .inl (.int, 20, .inl fun _ => 0),
  .inl (.int, 20, .inl fun _ => 0),
  .inl (.int, 20, .inl fun _ => 0),
  .inl (.int, 20, .inl fun _ => 0),
  .inl (.int, 20, .inl fun _ => 0),
  .inl (.int, 20, .inl fun _ => 0),
  .inl (.int, 20, .inl fun _ => 0),
  .inl (.boolean, 20, .inl fun _ => 0),
  .inl (.boolean, 20, .inl fun _ => 0),
  .inl (.int, 20, .inl fun _ => 0),
  .inl (.int, 20, .inl fun _ => 0),
  .inl (.int, 20, .inl fun _ => 0),
  .inl (.int, 20, .inl fun _ => 0),
  .inl (.array .int, 3, .inr (.inr (.inr (.inr (fun i => if i < 3 then some (175 + i) else none))))),
  .inl (.int, 20, .inl fun _ => 0),
  .inl (.int, 20, .inl fun _ => 0),
  .inl (.int, 20, .inl fun _ => 0),
  .inl (.int, 3, .inl fun _ => 0),
  .inl (.int, 3, .inl fun _ => 0),
  .inl (.int, 20, .inl fun _ => 0)]
def f_s1 (σ : f_M) : f_M := fun a => if a < 155 then σ a else if a = 155 then (fun i => if i = 12 then -1 else 0) else fun _ => 0
theorem f_s1_0 (σ : f_M) : f_s1 σ 155 = fun i => if i = 12 then -1 else 0 := by unfold f_s1; rw [if_neg (by decide), if_pos rfl]
theorem f_s1_n (σ : f_M) {a : Nat} (h : 155 < a) : f_s1 σ a = fun _ => 0 := by unfold f_s1; rw [if_neg (by omega), if_neg (by omega)]
set_option maxRecDepth 4000 in
def g_40 (σ : f_M) : Option f_M :=
  (f_wr σ 166 3 (0 : Int32) (200 : Int32)).bind fun m1 =>
  (f_wr m1 166 3 (1 : Int32) (60 : Int32)).bind fun m2 =>
  (f_wr m2 166 3 (2 : Int32) (500 : Int32)).bind fun m3 =>
  (f_lp (fun (s4 : Int32 × f_M) =>
   if (3 : Int32) ≤ s4.1 then (
    some (.inr s4.2)
   ) else (
    (f_lp (fun (s5 : Int32 × f_M) =>
     if (3 : Int32) ≤ s5.1 then (
      some (.inr s5.2)
     ) else (
      (f_ch 1 (((4 : Int32) * s4.1) + s5.1)).bind fun v6 =>
      (f_wr s5.2 160 6 s5.1 v6).bind fun m7 =>
      some (.inl ((s5.1 + (1 : Int32)), m7))
     )
    ) f_F ((0 : Int32), (f_up s4.2 155 8 (3 : Int32)))).bind fun (x5 : f_M) =>
    (f_rd x5 166 3 s4.1).bind fun v9 =>
    (g_37 v9 x5).bind fun t10 =>
    some (.inl ((s4.1 + (1 : Int32)), t10))
   )
  ) f_F ((0 : Int32), m3)).bind fun (x4 : f_M) =>
  (g_38 (0 : Int32) x4).bind fun t12 =>
  (g_38 (4 : Int32) t12).bind fun t13 =>
  (f_wr t13 156 2420 (1 : Int32) (300 : Int32)).bind fun m14 =>
  (g_39  m14).bind fun t15 =>
  (f_wr m14 156 2420 (9 : Int32) t15).bind fun m16 =>
  some m16
def f_sL (σ : f_M) : f_M := fun a => if a < 155 then σ a else fun _ => 0
theorem f_hp_add (N k : Nat) (σ : f_M) : f_hp N σ ++ (List.range k).map (fun j => f_cell (f_shape (N + j)) (σ (N + j))) = f_hp (N + k) σ := by
  unfold f_hp
  rw [List.range_add, List.map_append, List.map_map]
  rfl
theorem f_sL_n (σ : f_M) {a : Nat} (h : 155 ≤ a) : f_sL σ a = fun _ => 0 := by unfold f_sL; rw [if_neg (by omega)]
set_option maxRecDepth 100000 in
theorem hm_end (σ : f_M) : f_hp 155 σ ++ hm_1 = f_hp 181 (f_sL σ) := by
  rw [f_hp_eq (σ' := f_sL σ) (fun a h => (if_pos h).symm), ← f_hp_add 155 26 (f_sL σ)]
  refine congrArg (fun z => f_hp 155 (f_sL σ) ++ z) ?_
  show hm_1 = [f_cell (f_shape 155) (f_sL σ 155), f_cell (f_shape 156) (f_sL σ 156), f_cell (f_shape 157) (f_sL σ 157), f_cell (f_shape 158) (f_sL σ 158), f_cell (f_shape 159) (f_sL σ 159), f_cell (f_shape 160) (f_sL σ 160), f_cell (f_shape 161) (f_sL σ 161), f_cell (f_shape 162) (f_sL σ 162), f_cell (f_shape 163) (f_sL σ 163), f_cell (f_shape 164) (f_sL σ 164), f_cell (f_shape 165) (f_sL σ 165), f_cell (f_shape 166) (f_sL σ 166), f_cell (f_shape 167) (f_sL σ 167), f_cell (f_shape 168) (f_sL σ 168), f_cell (f_shape 169) (f_sL σ 169), f_cell (f_shape 170) (f_sL σ 170), f_cell (f_shape 171) (f_sL σ 171), f_cell (f_shape 172) (f_sL σ 172), f_cell (f_shape 173) (f_sL σ 173), f_cell (f_shape 174) (f_sL σ 174), f_cell (f_shape 175) (f_sL σ 175), f_cell (f_shape 176) (f_sL σ 176), f_cell (f_shape 177) (f_sL σ 177), f_cell (f_shape 178) (f_sL σ 178), f_cell (f_shape 179) (f_sL σ 179), f_cell (f_shape 180) (f_sL σ 180)]
  rw [f_sL_n σ (a := 155) (by decide), f_sL_n σ (a := 156) (by decide), f_sL_n σ (a := 157) (by decide), f_sL_n σ (a := 158) (by decide), f_sL_n σ (a := 159) (by decide), f_sL_n σ (a := 160) (by decide), f_sL_n σ (a := 161) (by decide), f_sL_n σ (a := 162) (by decide), f_sL_n σ (a := 163) (by decide), f_sL_n σ (a := 164) (by decide), f_sL_n σ (a := 165) (by decide), f_sL_n σ (a := 166) (by decide), f_sL_n σ (a := 167) (by decide), f_sL_n σ (a := 168) (by decide), f_sL_n σ (a := 169) (by decide), f_sL_n σ (a := 170) (by decide), f_sL_n σ (a := 171) (by decide), f_sL_n σ (a := 172) (by decide), f_sL_n σ (a := 173) (by decide), f_sL_n σ (a := 174) (by decide), f_sL_n σ (a := 175) (by decide), f_sL_n σ (a := 176) (by decide), f_sL_n σ (a := 177) (by decide), f_sL_n σ (a := 178) (by decide), f_sL_n σ (a := 179) (by decide), f_sL_n σ (a := 180) (by decide)]
  rfl
set_option maxRecDepth 100000 in
theorem K_35 {xs : Nat → Int32} {L : Nat} {σ : f_M} : f_run a_MT xs L 35 [.ref 155] (f_hp 155 σ ++ hm_0) (.inl none, f_hp 181 (f_sL σ)) := by
  rw [← hm_end]
  refine r_of (ls := [.ref 155]) MT_35 (by decide) rfl ?_
  refine r_aload_n (pc' := 1) (f_at inc_35 (j := 0) rfl) rfl rfl ?_
  refine r_obj (pc' := 4) (f_at inc_35 (j := 1) rfl) (by decide) rfl ?_
  refine r_aload_n (pc' := 5) (f_at inc_35 (j := 2) rfl) rfl rfl ?_
  refine r_iconst (pc' := 6) (f_at inc_35 (j := 3) rfl) ci_4 rfl ?_
  refine r_newarr (pc' := 8) (c' := 24) (n' := 396) (ty := .int) (els := .inl fun _ => 0) (z := 4) (m := 156) (B := 155) (f_hp_len 155 σ) (f_at inc_35 (j := 4) rfl) rfl rfl (by decide +kernel) rfl (by decide) ⟨by decide, by decide⟩ ⟨rfl, rfl, rfl⟩ ?_
  refine r_put (pc' := 11) (B := 155) (f_hp_len 155 σ) (j := 0) (f_at inc_35 (j := 5) rfl) rfl rfl ⟨by decide, rfl, rfl⟩ rfl ?_
  refine r_aload_n (pc' := 12) (f_at inc_35 (j := 6) rfl) rfl rfl ?_
  refine r_iconst (pc' := 13) (f_at inc_35 (j := 7) rfl) ci_4 rfl ?_
  refine r_newarr (pc' := 15) (c' := 23) (n' := 392) (ty := .int) (els := .inl fun _ => 0) (z := 4) (m := 157) (B := 155) (f_hp_len 155 σ) (f_at inc_35 (j := 8) rfl) rfl rfl (by decide +kernel) rfl (by decide) ⟨by decide, by decide⟩ ⟨rfl, rfl, rfl⟩ ?_
  refine r_put (pc' := 18) (B := 155) (f_hp_len 155 σ) (j := 0) (f_at inc_35 (j := 9) rfl) rfl rfl ⟨by decide, rfl, rfl⟩ rfl ?_
  refine r_aload_n (pc' := 19) (f_at inc_35 (j := 10) rfl) rfl rfl ?_
  refine r_iconst (pc' := 20) (f_at inc_35 (j := 11) rfl) ci_3 rfl ?_
  refine r_newarr (pc' := 22) (c' := 22) (n' := 389) (ty := .int) (els := .inl fun _ => 0) (z := 3) (m := 158) (B := 155) (f_hp_len 155 σ) (f_at inc_35 (j := 12) rfl) rfl rfl (by decide +kernel) rfl (by decide) ⟨by decide, by decide⟩ ⟨rfl, rfl, rfl⟩ ?_
  refine r_put (pc' := 25) (B := 155) (f_hp_len 155 σ) (j := 0) (f_at inc_35 (j := 13) rfl) rfl rfl ⟨by decide, rfl, rfl⟩ rfl ?_
  refine r_aload_n (pc' := 26) (f_at inc_35 (j := 14) rfl) rfl rfl ?_
  refine r_bipush (pc' := 28) (f_at inc_35 (j := 15) rfl) cb_20 rfl ?_
  refine r_newarr (pc' := 30) (c' := 21) (n' := 369) (ty := .int) (els := .inl fun _ => 0) (z := 20) (m := 159) (B := 155) (f_hp_len 155 σ) (f_at inc_35 (j := 16) rfl) rfl rfl (by decide +kernel) rfl (by decide) ⟨by decide, by decide⟩ ⟨rfl, rfl, rfl⟩ ?_
  refine r_put (pc' := 33) (B := 155) (f_hp_len 155 σ) (j := 0) (f_at inc_35 (j := 17) rfl) rfl rfl ⟨by decide, rfl, rfl⟩ rfl ?_
  refine r_aload_n (pc' := 34) (f_at inc_35 (j := 18) rfl) rfl rfl ?_
  refine r_bipush (pc' := 36) (f_at inc_35 (j := 19) rfl) cb_20 rfl ?_
  refine r_newarr (pc' := 38) (c' := 20) (n' := 349) (ty := .int) (els := .inl fun _ => 0) (z := 20) (m := 160) (B := 155) (f_hp_len 155 σ) (f_at inc_35 (j := 20) rfl) rfl rfl (by decide +kernel) rfl (by decide) ⟨by decide, by decide⟩ ⟨rfl, rfl, rfl⟩ ?_
  refine r_put (pc' := 41) (B := 155) (f_hp_len 155 σ) (j := 0) (f_at inc_35 (j := 21) rfl) rfl rfl ⟨by decide, rfl, rfl⟩ rfl ?_
  refine r_aload_n (pc' := 42) (f_at inc_35 (j := 22) rfl) rfl rfl ?_
  refine r_bipush (pc' := 44) (f_at inc_35 (j := 23) rfl) cb_20 rfl ?_
  refine r_newarr (pc' := 46) (c' := 19) (n' := 329) (ty := .int) (els := .inl fun _ => 0) (z := 20) (m := 161) (B := 155) (f_hp_len 155 σ) (f_at inc_35 (j := 24) rfl) rfl rfl (by decide +kernel) rfl (by decide) ⟨by decide, by decide⟩ ⟨rfl, rfl, rfl⟩ ?_
  refine r_put (pc' := 49) (B := 155) (f_hp_len 155 σ) (j := 0) (f_at inc_35 (j := 25) rfl) rfl rfl ⟨by decide, rfl, rfl⟩ rfl ?_
  refine r_aload_n (pc' := 50) (f_at inc_35 (j := 26) rfl) rfl rfl ?_
  refine r_bipush (pc' := 52) (f_at inc_35 (j := 27) rfl) cb_20 rfl ?_
  refine r_newarr (pc' := 54) (c' := 18) (n' := 309) (ty := .int) (els := .inl fun _ => 0) (z := 20) (m := 162) (B := 155) (f_hp_len 155 σ) (f_at inc_35 (j := 28) rfl) rfl rfl (by decide +kernel) rfl (by decide) ⟨by decide, by decide⟩ ⟨rfl, rfl, rfl⟩ ?_
  refine r_put (pc' := 57) (B := 155) (f_hp_len 155 σ) (j := 0) (f_at inc_35 (j := 29) rfl) rfl rfl ⟨by decide, rfl, rfl⟩ rfl ?_
  refine r_aload_n (pc' := 58) (f_at inc_35 (j := 30) rfl) rfl rfl ?_
  refine r_bipush (pc' := 60) (f_at inc_35 (j := 31) rfl) cb_20 rfl ?_
  refine r_newarr (pc' := 62) (c' := 17) (n' := 289) (ty := .int) (els := .inl fun _ => 0) (z := 20) (m := 163) (B := 155) (f_hp_len 155 σ) (f_at inc_35 (j := 32) rfl) rfl rfl (by decide +kernel) rfl (by decide) ⟨by decide, by decide⟩ ⟨rfl, rfl, rfl⟩ ?_
  refine r_put (pc' := 65) (B := 155) (f_hp_len 155 σ) (j := 0) (f_at inc_35 (j := 33) rfl) rfl rfl ⟨by decide, rfl, rfl⟩ rfl ?_
  refine r_aload_n (pc' := 66) (f_at inc_35 (j := 34) rfl) rfl rfl ?_
  refine r_bipush (pc' := 68) (f_at inc_35 (j := 35) rfl) cb_20 rfl ?_
  refine r_newarr (pc' := 70) (c' := 16) (n' := 269) (ty := .int) (els := .inl fun _ => 0) (z := 20) (m := 164) (B := 155) (f_hp_len 155 σ) (f_at inc_35 (j := 36) rfl) rfl rfl (by decide +kernel) rfl (by decide) ⟨by decide, by decide⟩ ⟨rfl, rfl, rfl⟩ ?_
  refine r_put (pc' := 73) (B := 155) (f_hp_len 155 σ) (j := 0) (f_at inc_35 (j := 37) rfl) rfl rfl ⟨by decide, rfl, rfl⟩ rfl ?_
  refine r_aload_n (pc' := 74) (f_at inc_35 (j := 38) rfl) rfl rfl ?_
  refine r_bipush (pc' := 76) (f_at inc_35 (j := 39) rfl) cb_20 rfl ?_
  refine r_newarr (pc' := 78) (c' := 15) (n' := 249) (ty := .int) (els := .inl fun _ => 0) (z := 20) (m := 165) (B := 155) (f_hp_len 155 σ) (f_at inc_35 (j := 40) rfl) rfl rfl (by decide +kernel) rfl (by decide) ⟨by decide, by decide⟩ ⟨rfl, rfl, rfl⟩ ?_
  refine r_put (pc' := 81) (B := 155) (f_hp_len 155 σ) (j := 0) (f_at inc_35 (j := 41) rfl) rfl rfl ⟨by decide, rfl, rfl⟩ rfl ?_
  refine r_aload_n (pc' := 82) (f_at inc_35 (j := 42) rfl) rfl rfl ?_
  refine r_bipush (pc' := 84) (f_at inc_35 (j := 43) rfl) cb_20 rfl ?_
  refine r_newarr (pc' := 86) (c' := 14) (n' := 229) (ty := .int) (els := .inl fun _ => 0) (z := 20) (m := 166) (B := 155) (f_hp_len 155 σ) (f_at inc_35 (j := 44) rfl) rfl rfl (by decide +kernel) rfl (by decide) ⟨by decide, by decide⟩ ⟨rfl, rfl, rfl⟩ ?_
  refine r_put (pc' := 89) (B := 155) (f_hp_len 155 σ) (j := 0) (f_at inc_35 (j := 45) rfl) rfl rfl ⟨by decide, rfl, rfl⟩ rfl ?_
  refine r_aload_n (pc' := 90) (f_at inc_35 (j := 46) rfl) rfl rfl ?_
  refine r_bipush (pc' := 92) (f_at inc_35 (j := 47) rfl) cb_20 rfl ?_
  refine r_newarr (pc' := 94) (c' := 13) (n' := 209) (ty := .int) (els := .inl fun _ => 0) (z := 20) (m := 167) (B := 155) (f_hp_len 155 σ) (f_at inc_35 (j := 48) rfl) rfl rfl (by decide +kernel) rfl (by decide) ⟨by decide, by decide⟩ ⟨rfl, rfl, rfl⟩ ?_
  refine r_put (pc' := 97) (B := 155) (f_hp_len 155 σ) (j := 0) (f_at inc_35 (j := 49) rfl) rfl rfl ⟨by decide, rfl, rfl⟩ rfl ?_
  refine r_aload_n (pc' := 98) (f_at inc_35 (j := 50) rfl) rfl rfl ?_
  refine r_bipush (pc' := 100) (f_at inc_35 (j := 51) rfl) cb_20 rfl ?_
  refine r_newarr (pc' := 102) (c' := 12) (n' := 189) (ty := .boolean) (els := .inl fun _ => 0) (z := 20) (m := 168) (B := 155) (f_hp_len 155 σ) (f_at inc_35 (j := 52) rfl) rfl rfl (by decide +kernel) rfl (by decide) ⟨by decide, by decide⟩ ⟨rfl, rfl, rfl⟩ ?_
  refine r_put (pc' := 105) (B := 155) (f_hp_len 155 σ) (j := 0) (f_at inc_35 (j := 53) rfl) rfl rfl ⟨by decide, rfl, rfl⟩ rfl ?_
  refine r_aload_n (pc' := 106) (f_at inc_35 (j := 54) rfl) rfl rfl ?_
  refine r_bipush (pc' := 108) (f_at inc_35 (j := 55) rfl) cb_20 rfl ?_
  refine r_newarr (pc' := 110) (c' := 11) (n' := 169) (ty := .boolean) (els := .inl fun _ => 0) (z := 20) (m := 169) (B := 155) (f_hp_len 155 σ) (f_at inc_35 (j := 56) rfl) rfl rfl (by decide +kernel) rfl (by decide) ⟨by decide, by decide⟩ ⟨rfl, rfl, rfl⟩ ?_
  refine r_put (pc' := 113) (B := 155) (f_hp_len 155 σ) (j := 0) (f_at inc_35 (j := 57) rfl) rfl rfl ⟨by decide, rfl, rfl⟩ rfl ?_
  refine r_aload_n (pc' := 114) (f_at inc_35 (j := 58) rfl) rfl rfl ?_
  refine r_bipush (pc' := 116) (f_at inc_35 (j := 59) rfl) cb_20 rfl ?_
  refine r_newarr (pc' := 118) (c' := 10) (n' := 149) (ty := .int) (els := .inl fun _ => 0) (z := 20) (m := 170) (B := 155) (f_hp_len 155 σ) (f_at inc_35 (j := 60) rfl) rfl rfl (by decide +kernel) rfl (by decide) ⟨by decide, by decide⟩ ⟨rfl, rfl, rfl⟩ ?_
  refine r_put (pc' := 121) (B := 155) (f_hp_len 155 σ) (j := 0) (f_at inc_35 (j := 61) rfl) rfl rfl ⟨by decide, rfl, rfl⟩ rfl ?_
  refine r_aload_n (pc' := 122) (f_at inc_35 (j := 62) rfl) rfl rfl ?_
  refine r_bipush (pc' := 124) (f_at inc_35 (j := 63) rfl) cb_20 rfl ?_
  refine r_newarr (pc' := 126) (c' := 9) (n' := 129) (ty := .int) (els := .inl fun _ => 0) (z := 20) (m := 171) (B := 155) (f_hp_len 155 σ) (f_at inc_35 (j := 64) rfl) rfl rfl (by decide +kernel) rfl (by decide) ⟨by decide, by decide⟩ ⟨rfl, rfl, rfl⟩ ?_
  refine r_put (pc' := 129) (B := 155) (f_hp_len 155 σ) (j := 0) (f_at inc_35 (j := 65) rfl) rfl rfl ⟨by decide, rfl, rfl⟩ rfl ?_
  refine r_aload_n (pc' := 130) (f_at inc_35 (j := 66) rfl) rfl rfl ?_
  refine r_bipush (pc' := 132) (f_at inc_35 (j := 67) rfl) cb_20 rfl ?_
  refine r_newarr (pc' := 134) (c' := 8) (n' := 109) (ty := .int) (els := .inl fun _ => 0) (z := 20) (m := 172) (B := 155) (f_hp_len 155 σ) (f_at inc_35 (j := 68) rfl) rfl rfl (by decide +kernel) rfl (by decide) ⟨by decide, by decide⟩ ⟨rfl, rfl, rfl⟩ ?_
  refine r_put (pc' := 137) (B := 155) (f_hp_len 155 σ) (j := 0) (f_at inc_35 (j := 69) rfl) rfl rfl ⟨by decide, rfl, rfl⟩ rfl ?_
  refine r_aload_n (pc' := 138) (f_at inc_35 (j := 70) rfl) rfl rfl ?_
  refine r_bipush (pc' := 140) (f_at inc_35 (j := 71) rfl) cb_20 rfl ?_
  refine r_newarr (pc' := 142) (c' := 7) (n' := 89) (ty := .int) (els := .inl fun _ => 0) (z := 20) (m := 173) (B := 155) (f_hp_len 155 σ) (f_at inc_35 (j := 72) rfl) rfl rfl (by decide +kernel) rfl (by decide) ⟨by decide, by decide⟩ ⟨rfl, rfl, rfl⟩ ?_
  refine r_put (pc' := 145) (B := 155) (f_hp_len 155 σ) (j := 0) (f_at inc_35 (j := 73) rfl) rfl rfl ⟨by decide, rfl, rfl⟩ rfl ?_
  refine r_aload_n (pc' := 146) (f_at inc_35 (j := 74) rfl) rfl rfl ?_
  refine r_iconst (pc' := 147) (f_at inc_35 (j := 75) rfl) ci_3 rfl ?_
  refine r_bipush (pc' := 149) (f_at inc_35 (j := 76) rfl) cb_20 rfl ?_
  refine r_multi (pc' := 153) (c' := 3) (n' := 26) (u := 3) (z := 20) (m := 174) (B := 155) (f_hp_len 155 σ) (f_at inc_35 (j := 77) rfl) rfl (by decide +kernel) rfl (by decide) ⟨by decide, by decide⟩ ⟨rfl, rfl, rfl⟩ ?_
  refine r_put (pc' := 156) (B := 155) (f_hp_len 155 σ) (j := 0) (f_at inc_35 (j := 78) rfl) rfl rfl ⟨by decide, rfl, rfl⟩ rfl ?_
  refine r_aload_n (pc' := 157) (f_at inc_35 (j := 79) rfl) rfl rfl ?_
  refine r_iconst (pc' := 158) (f_at inc_35 (j := 80) rfl) ci_3 rfl ?_
  refine r_newarr (pc' := 160) (c' := 2) (n' := 23) (ty := .int) (els := .inl fun _ => 0) (z := 3) (m := 178) (B := 155) (f_hp_len 155 σ) (f_at inc_35 (j := 81) rfl) rfl rfl (by decide +kernel) rfl (by decide) ⟨by decide, by decide⟩ ⟨rfl, rfl, rfl⟩ ?_
  refine r_put (pc' := 163) (B := 155) (f_hp_len 155 σ) (j := 0) (f_at inc_35 (j := 82) rfl) rfl rfl ⟨by decide, rfl, rfl⟩ rfl ?_
  refine r_aload_n (pc' := 164) (f_at inc_35 (j := 83) rfl) rfl rfl ?_
  refine r_iconst (pc' := 165) (f_at inc_35 (j := 84) rfl) ci_3 rfl ?_
  refine r_newarr (pc' := 167) (c' := 1) (n' := 20) (ty := .int) (els := .inl fun _ => 0) (z := 3) (m := 179) (B := 155) (f_hp_len 155 σ) (f_at inc_35 (j := 85) rfl) rfl rfl (by decide +kernel) rfl (by decide) ⟨by decide, by decide⟩ ⟨rfl, rfl, rfl⟩ ?_
  refine r_put (pc' := 170) (B := 155) (f_hp_len 155 σ) (j := 0) (f_at inc_35 (j := 86) rfl) rfl rfl ⟨by decide, rfl, rfl⟩ rfl ?_
  refine r_aload_n (pc' := 171) (f_at inc_35 (j := 87) rfl) rfl rfl ?_
  refine r_bipush (pc' := 173) (f_at inc_35 (j := 88) rfl) cb_20 rfl ?_
  refine r_newarr (pc' := 175) (c' := 0) (n' := 0) (ty := .int) (els := .inl fun _ => 0) (z := 20) (m := 180) (B := 155) (f_hp_len 155 σ) (f_at inc_35 (j := 89) rfl) rfl rfl (by decide +kernel) rfl (by decide) ⟨by decide, by decide⟩ ⟨rfl, rfl, rfl⟩ ?_
  refine r_put (pc' := 178) (B := 155) (f_hp_len 155 σ) (j := 0) (f_at inc_35 (j := 90) rfl) rfl rfl ⟨by decide, rfl, rfl⟩ rfl ?_
  exact r_vret (f_at inc_35 (j := 91) rfl) rfl rfl
