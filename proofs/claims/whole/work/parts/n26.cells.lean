-- the start: the cells of the constructors, by their keys
abbrev TK : Type := Int32 × Int32 × (Nat → Int64) × (Nat → Int64) × (Nat → Int64) × Int32 × Int32 × (Nat → Int64) × (Nat → Int64) × (Nat → Int64) × Int32 × Int32 × (Nat → Int64) × (Nat → Int64) × (Nat → Int64) × Int32 × Int32 × (Nat → Int64) × (Nat → Int64) × (Nat → Int64) × Int32 × Int32 × (Nat → Int64) × (Nat → Int64) × (Nat → Int64) × Int32 × Int32 × (Nat → Int64) × (Nat → Int64) × (Nat → Int64) × Int32 × Int32 × (Nat → Int64) × (Nat → Int64) × (Nat → Int64) × Int32 × Int32 × (Nat → Int64) × (Nat → Int64) × (Nat → Int64) × (Nat → Int32) × Int32 × Int32 × Int32 × Int32 × Int32 × Int64 × Int32 × Int64
abbrev TM : Type := (Nat → Int32) × (Nat → Int32) × (Nat → Int32) × (Nat → Int32) × (Nat → Int32) × (Nat → Int32) × (Nat → Int32) × (Nat → Int32) × (Nat → Int32) × (Nat → Int32) × (Nat → Int32) × (Nat → Int32) × (Nat → Int32) × (Nat → Int32) × (Nat → Int32)
def kW (cy : Nat → ClassId) (ad : Nat → Nat) (o : Nat) (u : Nat → Nat) (res : TK) : va_W := [(o, .inr (0, [.ref (u 0), .int (0 : Int32), .ref (u 1), .ref (u 2), .ref (u 6), .ref (u 107), .ref (u 118), .ref (u 128), .ref (u 131), .ref (u 132), .ref (u 133), .int (0 : Int32), .int (0 : Int32)])), ((u 0), .inl (cy 0, 3000, .inl (fun _ => 0))), ((u 1), .inl (cy 0, 32, .inl (fun _ => 0))), ((u 2), .inr (9, [.ref (u 3), .ref (u 4), .ref (u 5), .int (0 : Int32), .long (0 : Int64)])), ((u 3), .inl (cy 1, 8, .inl (fun _ => 0))), ((u 4), .inl (cy 1, 64, .inl (fun _ => 0))), ((u 5), .inl (cy 0, 64, .inl (fun _ => 0))), ((u 6), .inr (10, [.ref (u 7), .ref (u 21), .ref (u 22), .ref (u 23), .ref (u 24), .ref (u 25), .ref (u 26), .ref (u 31), .ref (u 32), .ref (u 33), .ref (u 34), .ref (u 35), .ref (u 39)])), ((u 7), .inr (3, [.ref (u 8), .ref (u 15), .ref (u 16), .ref (u 17), .ref (u 18), .ref (u 19), .ref (u 20)])), ((u 8), .inl (cy 5, 6, .inr (.inr (.inr (.inr (ml_l [(u 9), (u 10), (u 11), (u 12), (u 13), (u 14)])))))), ((u 9), .inl (cy 2, 10, .inr (.inl (fun _ => 0)))), ((u 10), .inl (cy 2, 10, .inr (.inl (fun _ => 0)))), ((u 11), .inl (cy 2, 10, .inr (.inl (fun _ => 0)))), ((u 12), .inl (cy 2, 10, .inr (.inl (fun _ => 0)))), ((u 13), .inl (cy 2, 10, .inr (.inl (fun _ => 0)))), ((u 14), .inl (cy 2, 10, .inr (.inl (fun _ => 0)))), ((u 15), .inl (cy 2, 5, .inr (.inl (fun _ => 0)))), ((u 16), .inl (cy 2, 10, .inr (.inl (fun _ => 0)))), ((u 17), .inl (cy 2, 10, .inr (.inl (fun _ => 0)))), ((u 18), .inl (cy 2, 10, .inr (.inl (fun _ => 0)))), ((u 19), .inl (cy 2, 10, .inr (.inl (fun _ => 0)))), ((u 20), .inl (cy 2, 10, .inr (.inl (fun _ => 0)))), ((u 21), .inl (cy 2, 5, .inr (.inl (fun _ => 0)))), ((u 22), .inl (cy 2, 5, .inr (.inl (fun _ => 0)))), ((u 23), .inl (cy 2, 5, .inr (.inl (fun _ => 0)))), ((u 24), .inl (cy 2, 5, .inr (.inl (fun _ => 0)))), ((u 25), .inl (cy 2, 5, .inr (.inl (fun _ => 0)))), ((u 26), .inl (cy 5, 4, .inr (.inr (.inr (.inr (ml_l [(u 27), (u 28), (u 29), (u 30)])))))), ((u 27), .inl (cy 2, 5, .inr (.inl (fun _ => 0)))), ((u 28), .inl (cy 2, 5, .inr (.inl (fun _ => 0)))), ((u 29), .inl (cy 2, 5, .inr (.inl (fun _ => 0)))), ((u 30), .inl (cy 2, 5, .inr (.inl (fun _ => 0)))), ((u 31), .inl (cy 0, 262, .inl (fun _ => 0))), ((u 32), .inl (cy 0, 262, .inl (fun _ => 0))), ((u 33), .inl (cy 4, 8, .inr (.inr (.inr (.inr (va_up (va_up (va_up (va_up (va_up (va_up (va_up (va_up (fun _ => none) 0 (some (u 43))) 1 (some (u 51))) 2 (some (u 59))) 3 (some (u 67))) 4 (some (u 75))) 5 (some (u 83))) 6 (some (u 91))) 7 (some (u 99)))))))), ((u 34), .inl (cy 4, 8, .inr (.inr (.inr (.inr (va_up (va_up (va_up (va_up (va_up (va_up (va_up (va_up (fun _ => none) 0 (some (u 47))) 1 (some (u 55))) 2 (some (u 63))) 3 (some (u 71))) 4 (some (u 79))) 5 (some (u 87))) 6 (some (u 95))) 7 (some (u 103)))))))), ((u 35), .inr (7, [.ref (u 36), .ref (u 37), .ref (u 38), .int (0 : Int32), .int (0 : Int32)])), ((u 36), .inl (cy 2, 10, .inr (.inl (fun _ => 0)))), ((u 37), .inl (cy 2, 10, .inr (.inl (fun _ => 0)))), ((u 38), .inl (cy 2, 10, .inr (.inl (fun _ => 0)))), ((u 39), .inr (7, [.ref (u 40), .ref (u 41), .ref (u 42), .int (0 : Int32), .int (0 : Int32)])), ((u 40), .inl (cy 2, 10, .inr (.inl (fun _ => 0)))), ((u 41), .inl (cy 2, 10, .inr (.inl (fun _ => 0)))), ((u 42), .inl (cy 2, 10, .inr (.inl (fun _ => 0)))), ((u 43), .inr (7, [.ref (u 44), .ref (u 45), .ref (u 46), .int res.1, .int res.2.1])), ((u 44), .inl (cy 2, 10, .inr (.inl res.2.2.1))), ((u 45), .inl (cy 2, 10, .inr (.inl res.2.2.2.1))), ((u 46), .inl (cy 2, 10, .inr (.inl res.2.2.2.2.1))), ((u 47), .inr (7, [.ref (u 48), .ref (u 49), .ref (u 50), .int (0 : Int32), .int (0 : Int32)])), ((u 48), .inl (cy 2, 10, .inr (.inl (fun _ => 0)))), ((u 49), .inl (cy 2, 10, .inr (.inl (fun _ => 0)))), ((u 50), .inl (cy 2, 10, .inr (.inl (fun _ => 0)))), ((u 51), .inr (7, [.ref (u 52), .ref (u 53), .ref (u 54), .int res.2.2.2.2.2.1, .int res.2.2.2.2.2.2.1])), ((u 52), .inl (cy 2, 10, .inr (.inl res.2.2.2.2.2.2.2.1))), ((u 53), .inl (cy 2, 10, .inr (.inl res.2.2.2.2.2.2.2.2.1))), ((u 54), .inl (cy 2, 10, .inr (.inl res.2.2.2.2.2.2.2.2.2.1))), ((u 55), .inr (7, [.ref (u 56), .ref (u 57), .ref (u 58), .int (0 : Int32), .int (0 : Int32)])), ((u 56), .inl (cy 2, 10, .inr (.inl (fun _ => 0)))), ((u 57), .inl (cy 2, 10, .inr (.inl (fun _ => 0)))), ((u 58), .inl (cy 2, 10, .inr (.inl (fun _ => 0)))), ((u 59), .inr (7, [.ref (u 60), .ref (u 61), .ref (u 62), .int res.2.2.2.2.2.2.2.2.2.2.1, .int res.2.2.2.2.2.2.2.2.2.2.2.1])), ((u 60), .inl (cy 2, 10, .inr (.inl res.2.2.2.2.2.2.2.2.2.2.2.2.1))), ((u 61), .inl (cy 2, 10, .inr (.inl res.2.2.2.2.2.2.2.2.2.2.2.2.2.1))), ((u 62), .inl (cy 2, 10, .inr (.inl res.2.2.2.2.2.2.2.2.2.2.2.2.2.2.1))), ((u 63), .inr (7, [.ref (u 64), .ref (u 65), .ref (u 66), .int (0 : Int32), .int (0 : Int32)])), ((u 64), .inl (cy 2, 10, .inr (.inl (fun _ => 0)))), ((u 65), .inl (cy 2, 10, .inr (.inl (fun _ => 0)))), ((u 66), .inl (cy 2, 10, .inr (.inl (fun _ => 0)))), ((u 67), .inr (7, [.ref (u 68), .ref (u 69), .ref (u 70), .int res.2.2.2.2.2.2.2.2.2.2.2.2.2.2.2.1, .int res.2.2.2.2.2.2.2.2.2.2.2.2.2.2.2.2.1])), ((u 68), .inl (cy 2, 10, .inr (.inl res.2.2.2.2.2.2.2.2.2.2.2.2.2.2.2.2.2.1))), ((u 69), .inl (cy 2, 10, .inr (.inl res.2.2.2.2.2.2.2.2.2.2.2.2.2.2.2.2.2.2.1))), ((u 70), .inl (cy 2, 10, .inr (.inl res.2.2.2.2.2.2.2.2.2.2.2.2.2.2.2.2.2.2.2.1))), ((u 71), .inr (7, [.ref (u 72), .ref (u 73), .ref (u 74), .int (0 : Int32), .int (0 : Int32)])), ((u 72), .inl (cy 2, 10, .inr (.inl (fun _ => 0)))), ((u 73), .inl (cy 2, 10, .inr (.inl (fun _ => 0)))), ((u 74), .inl (cy 2, 10, .inr (.inl (fun _ => 0)))), ((u 75), .inr (7, [.ref (u 76), .ref (u 77), .ref (u 78), .int res.2.2.2.2.2.2.2.2.2.2.2.2.2.2.2.2.2.2.2.2.1, .int res.2.2.2.2.2.2.2.2.2.2.2.2.2.2.2.2.2.2.2.2.2.1])), ((u 76), .inl (cy 2, 10, .inr (.inl res.2.2.2.2.2.2.2.2.2.2.2.2.2.2.2.2.2.2.2.2.2.2.1))), ((u 77), .inl (cy 2, 10, .inr (.inl res.2.2.2.2.2.2.2.2.2.2.2.2.2.2.2.2.2.2.2.2.2.2.2.1))), ((u 78), .inl (cy 2, 10, .inr (.inl res.2.2.2.2.2.2.2.2.2.2.2.2.2.2.2.2.2.2.2.2.2.2.2.2.1))), ((u 79), .inr (7, [.ref (u 80), .ref (u 81), .ref (u 82), .int (0 : Int32), .int (0 : Int32)])), ((u 80), .inl (cy 2, 10, .inr (.inl (fun _ => 0)))), ((u 81), .inl (cy 2, 10, .inr (.inl (fun _ => 0)))), ((u 82), .inl (cy 2, 10, .inr (.inl (fun _ => 0)))), ((u 83), .inr (7, [.ref (u 84), .ref (u 85), .ref (u 86), .int res.2.2.2.2.2.2.2.2.2.2.2.2.2.2.2.2.2.2.2.2.2.2.2.2.2.1, .int res.2.2.2.2.2.2.2.2.2.2.2.2.2.2.2.2.2.2.2.2.2.2.2.2.2.2.1])), ((u 84), .inl (cy 2, 10, .inr (.inl res.2.2.2.2.2.2.2.2.2.2.2.2.2.2.2.2.2.2.2.2.2.2.2.2.2.2.2.1))), ((u 85), .inl (cy 2, 10, .inr (.inl res.2.2.2.2.2.2.2.2.2.2.2.2.2.2.2.2.2.2.2.2.2.2.2.2.2.2.2.2.1))), ((u 86), .inl (cy 2, 10, .inr (.inl res.2.2.2.2.2.2.2.2.2.2.2.2.2.2.2.2.2.2.2.2.2.2.2.2.2.2.2.2.2.1))), ((u 87), .inr (7, [.ref (u 88), .ref (u 89), .ref (u 90), .int (0 : Int32), .int (0 : Int32)])), ((u 88), .inl (cy 2, 10, .inr (.inl (fun _ => 0)))), ((u 89), .inl (cy 2, 10, .inr (.inl (fun _ => 0)))), ((u 90), .inl (cy 2, 10, .inr (.inl (fun _ => 0)))), ((u 91), .inr (7, [.ref (u 92), .ref (u 93), .ref (u 94), .int res.2.2.2.2.2.2.2.2.2.2.2.2.2.2.2.2.2.2.2.2.2.2.2.2.2.2.2.2.2.2.1, .int res.2.2.2.2.2.2.2.2.2.2.2.2.2.2.2.2.2.2.2.2.2.2.2.2.2.2.2.2.2.2.2.1])), ((u 92), .inl (cy 2, 10, .inr (.inl res.2.2.2.2.2.2.2.2.2.2.2.2.2.2.2.2.2.2.2.2.2.2.2.2.2.2.2.2.2.2.2.2.1))), ((u 93), .inl (cy 2, 10, .inr (.inl res.2.2.2.2.2.2.2.2.2.2.2.2.2.2.2.2.2.2.2.2.2.2.2.2.2.2.2.2.2.2.2.2.2.1))), ((u 94), .inl (cy 2, 10, .inr (.inl res.2.2.2.2.2.2.2.2.2.2.2.2.2.2.2.2.2.2.2.2.2.2.2.2.2.2.2.2.2.2.2.2.2.2.1))), ((u 95), .inr (7, [.ref (u 96), .ref (u 97), .ref (u 98), .int (0 : Int32), .int (0 : Int32)])), ((u 96), .inl (cy 2, 10, .inr (.inl (fun _ => 0)))), ((u 97), .inl (cy 2, 10, .inr (.inl (fun _ => 0)))), ((u 98), .inl (cy 2, 10, .inr (.inl (fun _ => 0)))), ((u 99), .inr (7, [.ref (u 100), .ref (u 101), .ref (u 102), .int res.2.2.2.2.2.2.2.2.2.2.2.2.2.2.2.2.2.2.2.2.2.2.2.2.2.2.2.2.2.2.2.2.2.2.2.1, .int res.2.2.2.2.2.2.2.2.2.2.2.2.2.2.2.2.2.2.2.2.2.2.2.2.2.2.2.2.2.2.2.2.2.2.2.2.1])), ((u 100), .inl (cy 2, 10, .inr (.inl res.2.2.2.2.2.2.2.2.2.2.2.2.2.2.2.2.2.2.2.2.2.2.2.2.2.2.2.2.2.2.2.2.2.2.2.2.2.1))), ((u 101), .inl (cy 2, 10, .inr (.inl res.2.2.2.2.2.2.2.2.2.2.2.2.2.2.2.2.2.2.2.2.2.2.2.2.2.2.2.2.2.2.2.2.2.2.2.2.2.2.1))), ((u 102), .inl (cy 2, 10, .inr (.inl res.2.2.2.2.2.2.2.2.2.2.2.2.2.2.2.2.2.2.2.2.2.2.2.2.2.2.2.2.2.2.2.2.2.2.2.2.2.2.2.1))), ((u 103), .inr (7, [.ref (u 104), .ref (u 105), .ref (u 106), .int (0 : Int32), .int (0 : Int32)])), ((u 104), .inl (cy 2, 10, .inr (.inl (fun _ => 0)))), ((u 105), .inl (cy 2, 10, .inr (.inl (fun _ => 0)))), ((u 106), .inl (cy 2, 10, .inr (.inl (fun _ => 0)))), ((u 107), .inr (6, [.ref (u 2), .ref (u 6), .ref (u 108), .ref (u 113), .ref (u 114), .ref (u 115), .ref (u 116), .ref (u 117), .int (0 : Int32), .int (0 : Int32), .int (0 : Int32), .int (0 : Int32), .int (0 : Int32), .int (0 : Int32), .null, .int (0 : Int32), .int (0 : Int32), .null, .int (0 : Int32)])), ((u 108), .inr (8, [.ref (u 109), .ref (u 110), .ref (u 111), .ref (u 112)])), ((u 109), .inl (cy 1, 5, .inl (fun _ => 0))), ((u 110), .inl (cy 1, 5, .inl (fun _ => 0))), ((u 111), .inl (cy 1, 5, .inl (fun _ => 0))), ((u 112), .inl (cy 1, 16, .inl (fun _ => 0))), ((u 113), .inl (cy 0, 14928, .inl res.2.2.2.2.2.2.2.2.2.2.2.2.2.2.2.2.2.2.2.2.2.2.2.2.2.2.2.2.2.2.2.2.2.2.2.2.2.2.2.2.1)), ((u 114), .inl (cy 1, 2, .inl (fun _ => 0))), ((u 115), .inl (cy 1, 204, .inl (fun _ => 0))), ((u 116), .inl (cy 1, 204, .inl (fun _ => 0))), ((u 117), .inl (cy 3, 202, .inl (fun _ => 0))), ((u 118), .inr (4, [.null, .int (0 : Int32), .ref (u 119), .ref (u 120), .ref (u 121), .ref (u 122), .ref (u 123), .ref (u 124), .ref (u 125), .ref (u 126), .ref (u 127), .int (0 : Int32), .int (0 : Int32), .int (0 : Int32), .int (0 : Int32)])), ((u 119), .inl (cy 1, 301, .inl (fun _ => 0))), ((u 120), .inl (cy 1, 301, .inl (fun _ => 0))), ((u 121), .inl (cy 1, 301, .inl (fun _ => 0))), ((u 122), .inl (cy 1, 73, .inl (fun _ => 0))), ((u 123), .inl (cy 1, 73, .inl (fun _ => 0))), ((u 124), .inl (cy 1, 73, .inl (fun _ => 0))), ((u 125), .inl (cy 1, 333, .inl (fun _ => 0))), ((u 126), .inl (cy 1, 333, .inl (fun _ => 0))), ((u 127), .inl (cy 1, 333, .inl (fun _ => 0))), ((u 128), .inr (5, [.ref (u 129), .ref (u 130)])), ((u 129), .inr (11, [.ref (ad 26), .int (0 : Int32), .int res.2.2.2.2.2.2.2.2.2.2.2.2.2.2.2.2.2.2.2.2.2.2.2.2.2.2.2.2.2.2.2.2.2.2.2.2.2.2.2.2.2.1])), ((u 130), .inr (11, [.ref (ad 26), .int (0 : Int32), .int res.2.2.2.2.2.2.2.2.2.2.2.2.2.2.2.2.2.2.2.2.2.2.2.2.2.2.2.2.2.2.2.2.2.2.2.2.2.2.2.2.2.2.1])), ((u 131), .inr (11, [.ref (u 137), .int res.2.2.2.2.2.2.2.2.2.2.2.2.2.2.2.2.2.2.2.2.2.2.2.2.2.2.2.2.2.2.2.2.2.2.2.2.2.2.2.2.2.2.2.1, .int res.2.2.2.2.2.2.2.2.2.2.2.2.2.2.2.2.2.2.2.2.2.2.2.2.2.2.2.2.2.2.2.2.2.2.2.2.2.2.2.2.2.2.2.2.1])), ((u 132), .inl (cy 6, 73, .inr (.inr (.inr (.inr (fun _ => none)))))), ((u 133), .inr (1, [.null, .ref (u 134), .ref (u 135), .ref (u 136), .int res.2.2.2.2.2.2.2.2.2.2.2.2.2.2.2.2.2.2.2.2.2.2.2.2.2.2.2.2.2.2.2.2.2.2.2.2.2.2.2.2.2.2.2.2.2.1, .long res.2.2.2.2.2.2.2.2.2.2.2.2.2.2.2.2.2.2.2.2.2.2.2.2.2.2.2.2.2.2.2.2.2.2.2.2.2.2.2.2.2.2.2.2.2.2.1, .int res.2.2.2.2.2.2.2.2.2.2.2.2.2.2.2.2.2.2.2.2.2.2.2.2.2.2.2.2.2.2.2.2.2.2.2.2.2.2.2.2.2.2.2.2.2.2.2.1, .long res.2.2.2.2.2.2.2.2.2.2.2.2.2.2.2.2.2.2.2.2.2.2.2.2.2.2.2.2.2.2.2.2.2.2.2.2.2.2.2.2.2.2.2.2.2.2.2.2, .null, .int (0 : Int32), .int (0 : Int32), .int (0 : Int32)])), ((u 134), .inl (cy 0, 0, .inl (fun _ => 0))), ((u 135), .inl (cy 0, 32, .inl (fun _ => 0))), ((u 136), .inl (cy 0, 0, .inl (fun _ => 0))), ((u 137), .inl (cy 7, 10, .inr (.inr (.inr (.inr (va_up (fun _ => none) 0 (some (u 133))))))))]
def mW0 (cy : Nat → ClassId) (o : Nat) (u : Nat → Nat) (res : TM) : va_W := [(o, .inr (12, mo u res.1)), ((u 0), .inl (cy 0, 3000, .inl (fun _ => 0))), ((u 1), .inl (cy 0, 103000, .inl (fun _ => 0))), ((u 2), .inl (cy 1, 202, .inl (fun _ => 0))), ((u 3), .inl (cy 1, 202, .inl res.2.1)), ((u 4), .inl (cy 1, 202, .inl (fun _ => 0))), ((u 5), .inl (cy 1, 202, .inl res.2.2.1)), ((u 6), .inl (cy 1, 202, .inl res.2.2.2.1)), ((u 7), .inl (cy 1, 202, .inl (fun _ => 0))), ((u 8), .inl (cy 1, 202, .inl (fun _ => 0))), ((u 9), .inl (cy 1, 1616, .inl (fun _ => 0))), ((u 10), .inl (cy 1, 1616, .inl res.2.2.2.2.1)), ((u 11), .inl (cy 3, 202, .inl (fun _ => 0))), ((u 12), .inl (cy 1, 2200, .inl (fun _ => 0))), ((u 13), .inl (cy 1, 2200, .inl (fun _ => 0))), ((u 14), .inl (cy 1, 17600, .inl (fun _ => 0))), ((u 15), .inl (cy 1, 2200, .inl (fun _ => 0))), ((u 16), .inl (cy 1, 2200, .inl (fun _ => 0))), ((u 17), .inl (cy 1, 2200, .inl (fun _ => 0))), ((u 18), .inl (cy 1, 2200, .inl (fun _ => 0))), ((u 19), .inl (cy 1, 2200, .inl (fun _ => 0))), ((u 20), .inl (cy 1, 2600, .inl (fun _ => 0))), ((u 21), .inl (cy 1, 2600, .inl (fun _ => 0))), ((u 22), .inl (cy 1, 2600, .inl (fun _ => 0))), ((u 23), .inl (cy 1, 2600, .inl (fun _ => 0))), ((u 24), .inl (cy 0, 2600, .inl (fun _ => 0))), ((u 25), .inl (cy 2, 11600, .inr (.inl (fun _ => 0)))), ((u 26), .inl (cy 1, 11600, .inl (fun _ => 0))), ((u 27), .inl (cy 1, 11600, .inl (fun _ => 0))), ((u 28), .inl (cy 1, 11600, .inl (fun _ => 0))), ((u 29), .inl (cy 1, 11600, .inl (fun _ => 0))), ((u 30), .inl (cy 1, 11600, .inl (fun _ => 0))), ((u 31), .inl (cy 1, 11600, .inl (fun _ => 0))), ((u 32), .inl (cy 1, 32768, .inl res.2.2.2.2.2.1)), ((u 33), .inl (cy 3, 11600, .inl res.2.2.2.2.2.2.1)), ((u 34), .inl (cy 1, 8, .inl (fun _ => 0))), ((u 35), .inl (cy 1, 64, .inl (fun _ => 0))), ((u 36), .inl (cy 0, 32, .inl (fun _ => 0))), ((u 37), .inl (cy 0, 100200, .inl (fun _ => 0))), ((u 38), .inl (cy 1, 8, .inl res.2.2.2.2.2.2.2.1)), ((u 39), .inl (cy 1, 8, .inl res.2.2.2.2.2.2.2.2.1)), ((u 40), .inl (cy 1, 8, .inl res.2.2.2.2.2.2.2.2.2.1)), ((u 41), .inl (cy 1, 8, .inl res.2.2.2.2.2.2.2.2.2.2.1)), ((u 42), .inl (cy 1, 8, .inl res.2.2.2.2.2.2.2.2.2.2.2.1)), ((u 43), .inl (cy 1, 8, .inl res.2.2.2.2.2.2.2.2.2.2.2.2.1)), ((u 44), .inl (cy 1, 8, .inl res.2.2.2.2.2.2.2.2.2.2.2.2.2.1)), ((u 45), .inl (cy 1, 8, .inl res.2.2.2.2.2.2.2.2.2.2.2.2.2.2)), ((u 46), .inl (cy 1, 8, .inl (fun _ => 0))), ((u 47), .inl (cy 1, 8, .inl (fun _ => 0))), ((u 48), .inl (cy 1, 8, .inl (fun _ => 0))), ((u 49), .inl (cy 1, 8, .inl (fun _ => 0))), ((u 50), .inl (cy 1, 16, .inl (fun _ => 0))), ((u 51), .inl (cy 1, 8, .inl (fun _ => 0))), ((u 52), .inl (cy 1, 8, .inl (fun _ => 0))), ((u 53), .inl (cy 1, 8, .inl (fun _ => 0))), ((u 54), .inl (cy 1, 8, .inl (fun _ => 0))), ((u 55), .inl (cy 1, 8, .inl (fun _ => 0))), ((u 56), .inl (cy 1, 8, .inl (fun _ => 0))), ((u 57), .inl (cy 1, 8, .inl (fun _ => 0))), ((u 58), .inl (cy 1, 8, .inl (fun _ => 0))), ((u 59), .inl (cy 1, 8, .inl (fun _ => 0))), ((u 60), .inl (cy 1, 8, .inl (fun _ => 0))), ((u 61), .inl (cy 1, 8, .inl (fun _ => 0))), ((u 62), .inl (cy 1, 8, .inl (fun _ => 0))), ((u 63), .inl (cy 1, 8, .inl (fun _ => 0))), ((u 64), .inl (cy 1, 8, .inl (fun _ => 0))), ((u 65), .inl (cy 1, 8, .inl (fun _ => 0))), ((u 66), .inl (cy 1, 8, .inl (fun _ => 0))), ((u 67), .inl (cy 1, 8, .inl (fun _ => 0))), ((u 68), .inl (cy 0, 104448, .inl (fun _ => 0))), ((u 69), .inl (cy 1, 408, .inl (fun _ => 0))), ((u 70), .inl (cy 3, 1001, .inl (fun _ => 0))), ((u 71), .inl (cy 0, 100100, .inl (fun _ => 0))), ((u 72), .inl (cy 1, 2200, .inl (fun _ => 0))), ((u 73), .inl (cy 1, 11, .inl (fun _ => 0))), ((u 74), .inl (cy 1, 17600, .inl (fun _ => 0))), ((u 75), .inl (cy 0, 64, .inl (fun _ => 0))), ((u 76), .inl (cy 0, 32, .inl (fun _ => 0))), ((u 77), .inl (cy 1, 202, .inl (fun _ => 0)))]
def stW (cy : Nat → ClassId) (ad : Nat → Nat) (o1 : Nat) (u1 : Nat → Nat) (r1 : TK) (o2 : Nat) (u2 : Nat → Nat) (r2 : TM) (w : Nat) : va_W := (kW cy ad o1 u1 r1 ++ mW0 cy o2 u2 r2) ++ [(w, .inl (cy 2, 1, .inr (.inl (fun _ => 0))))]
def ixT : List Nat := [7, 8, 9, 27, 34, 35, 32, 33, 22, 23, 24, 25, 26, 28, 29, 30, 31, 16, 17, 18, 19, 20, 21, 10, 11, 12, 13, 14, 15, 999, 44, 45, 46, 47, 52, 53, 54, 55, 60, 61, 62, 63, 68, 69, 70, 71, 76, 77, 78, 79, 84, 85, 86, 87, 92, 93, 94, 95, 100, 101, 102, 103, 48, 49, 50, 51, 56, 57, 58, 59, 64, 65, 66, 67, 72, 73, 74, 75, 80, 81, 82, 83, 88, 89, 90, 91, 96, 97, 98, 99, 104, 105, 106, 107, 36, 37, 38, 39, 40, 41, 42, 43, 114, 0, 1, 2, 3, 4, 5, 6, 108, 109, 110, 111, 112, 113, 115, 116, 117, 118, 119, 120, 121, 122, 123, 124, 125, 126, 127, 128, 129, 130, 131, 132, 133, 999, 218, 999, 140, 141, 142, 143, 144, 145, 146, 147, 148, 149, 150, 151, 152, 153, 154, 155, 156, 157, 158, 159, 160, 161, 162, 163, 164, 165, 166, 167, 168, 169, 170, 171, 172, 173, 174, 175, 176, 177, 178, 179, 180, 181, 182, 183, 184, 185, 186, 187, 188, 189, 190, 191, 192, 193, 194, 195, 196, 197, 198, 199, 200, 201, 202, 203, 204, 205, 206, 207, 208, 209, 210, 211, 212, 213, 214, 215, 216, 217, 139, 999, 999, 999, 999, 999, 138, 999, 999, 999, 999, 999, 999, 999, 999, 999, 999, 999, 999, 999, 999, 999, 999, 999, 999, 999, 999, 999, 999, 999, 999, 999, 999, 999, 999, 999, 999, 999, 999, 999, 134, 135, 136, 137]
def kyT : List Nat := [103, 104, 105, 106, 107, 108, 109, 0, 1, 2, 23, 24, 25, 26, 27, 28, 17, 18, 19, 20, 21, 22, 8, 9, 10, 11, 12, 3, 13, 14, 15, 16, 6, 7, 4, 5, 94, 95, 96, 97, 98, 99, 100, 101, 30, 31, 32, 33, 62, 63, 64, 65, 34, 35, 36, 37, 66, 67, 68, 69, 38, 39, 40, 41, 70, 71, 72, 73, 42, 43, 44, 45, 74, 75, 76, 77, 46, 47, 48, 49, 78, 79, 80, 81, 50, 51, 52, 53, 82, 83, 84, 85, 54, 55, 56, 57, 86, 87, 88, 89, 58, 59, 60, 61, 90, 91, 92, 93, 110, 111, 112, 113, 114, 115, 102, 116, 117, 118, 119, 120, 121, 122, 123, 124, 125, 126, 127, 128, 129, 130, 131, 132, 133, 134, 256, 257, 258, 259, 222, 216, 138, 139, 140, 141, 142, 143, 144, 145, 146, 147, 148, 149, 150, 151, 152, 153, 154, 155, 156, 157, 158, 159, 160, 161, 162, 163, 164, 165, 166, 167, 168, 169, 170, 171, 172, 173, 174, 175, 176, 177, 178, 179, 180, 181, 182, 183, 184, 185, 186, 187, 188, 189, 190, 191, 192, 193, 194, 195, 196, 197, 198, 199, 200, 201, 202, 203, 204, 205, 206, 207, 208, 209, 210, 211, 212, 213, 214, 215, 136]
abbrev stP (k : Nat) : Prop := (decide (k < 260) && decide (ixT.getD k 999 < 219)) = true
def stN (cy : Nat → ClassId) (ad : Nat → Nat) (o1 : Nat) (u1 : Nat → Nat) (r1 : TK) (o2 : Nat) (u2 : Nat → Nat) (r2 : TM) (w : Nat) (k : Nat) : Nat × va_E := (stW cy ad o1 u1 r1 o2 u2 r2 w).getD (ixT.getD k 999) (0, .inr (0, []))
def stq (cy : Nat → ClassId) (ad : Nat → Nat) (o1 : Nat) (u1 : Nat → Nat) (r1 : TK) (o2 : Nat) (u2 : Nat → Nat) (r2 : TM) (w : Nat) (k : Nat) : Nat := if k = 135 then ad 26 else (stN cy ad o1 u1 r1 o2 u2 r2 w k).1
def stC (cy : Nat → ClassId) (ad : Nat → Nat) (o1 : Nat) (u1 : Nat → Nat) (r1 : TK) (o2 : Nat) (u2 : Nat → Nat) (r2 : TM) (w : Nat) (k : Nat) : va_E := (stN cy ad o1 u1 r1 o2 u2 r2 w k).2
theorem stP_lt {k : Nat} (h : stP k) : k < 260 ∧ ixT.getD k 999 < 219 := by
  unfold stP at h
  simp only [Bool.and_eq_true, decide_eq_true_eq] at h
  exact h
set_option maxRecDepth 100000 in
theorem stP_135 : ¬ stP 135 := by decide +kernel
set_option maxRecDepth 100000 in
theorem stP_lo : ∀ k, k < 138 → k ≠ 29 ∧ k ≠ 137 ∧ k ≠ 135 → stP k := by decide +kernel
set_option maxRecDepth 100000 in
theorem stP_hi : ∀ k, k < 217 → 138 ≤ k → stP k := by decide +kernel
set_option maxRecDepth 100000 in
theorem stP_iv : ∀ k, k < 260 → ixT.getD k 999 < 219 → kyT.getD (ixT.getD k 999) 0 = k := by decide +kernel
set_option maxRecDepth 100000 in
theorem stW_len (cy : Nat → ClassId) (ad : Nat → Nat) (o1 : Nat) (u1 : Nat → Nat) (r1 : TK) (o2 : Nat) (u2 : Nat → Nat) (r2 : TM) (w : Nat) : (stW cy ad o1 u1 r1 o2 u2 r2 w).length = 219 := rfl
theorem stW_at (cy : Nat → ClassId) (ad : Nat → Nat) (o1 : Nat) (u1 : Nat → Nat) (r1 : TK) (o2 : Nat) (u2 : Nat → Nat) (r2 : TM) (w : Nat) {k : Nat} (h : stP k) : (stW cy ad o1 u1 r1 o2 u2 r2 w)[ixT.getD k 999]? = some (stq cy ad o1 u1 r1 o2 u2 r2 w k, stC cy ad o1 u1 r1 o2 u2 r2 w k) := by
  obtain ⟨h1, h2⟩ := stP_lt h
  have hk : k ≠ 135 := fun e => stP_135 (e ▸ h)
  have hl : ixT.getD k 999 < (stW cy ad o1 u1 r1 o2 u2 r2 w).length := by rw [stW_len]; exact h2
  unfold stq stC stN
  rw [if_neg hk]
  generalize ixT.getD k 999 = z at hl ⊢
  rw [List.getD_eq_getElem?_getD, List.getElem?_eq_getElem hl]
  rfl
theorem mat_of {μ : Mm} {ws : va_W} (h : mw μ = ws) {i a : Nat} {x : va_E} (hi : ws[i]? = some (a, x)) : mat μ a x := by
  subst h
  have hi : (μ.1.map fun a => (a, μ.2 a))[i]? = some (a, x) := hi
  rw [List.getElem?_map] at hi
  obtain ⟨b, hb, e⟩ := Option.map_eq_some_iff.mp hi
  have e1 := congrArg Prod.fst e
  have e2 := congrArg Prod.snd e
  replace e1 : b = a := e1
  replace e2 : μ.2 b = x := e2
  subst e1
  exact ⟨List.mem_of_getElem? hb, e2⟩
/-- a list of cells, apart, is a memory -/
theorem mw_of {ws : va_W} (h : ∀ (i j : Nat) (p q : Nat × va_E), ws[i]? = some p → ws[j]? = some q → p.1 = q.1 → i = j) : ∃ μ : Mm, mw μ = ws := by
  refine ⟨(ws.map (·.1), fun a => (mlk ws a).getD (.inr (0, []))), ?_⟩
  show (ws.map (·.1)).map (fun a => (a, (mlk ws a).getD (.inr (0, [])))) = ws
  rw [List.map_map]
  apply List.ext_getElem?
  intro i
  rw [List.getElem?_map]
  cases hi : ws[i]? with
  | none => rfl
  | some p =>
    obtain ⟨x, hx⟩ := mlk_mem (w := ws) (a := p.1) (List.mem_map.mpr ⟨p, List.mem_of_getElem? hi, rfl⟩)
    obtain ⟨j, hj⟩ := mlk_some hx
    have e := h i j p (p.1, x) hi hj rfl
    subst e
    rw [hi] at hj
    have e2 : p = (p.1, x) := Option.some.inj hj
    show some (p.1, (mlk ws p.1).getD (.inr (0, []))) = some p
    rw [hx]
    exact congrArg some e2.symm
theorem stRG {cy : Nat → ClassId} {ad : Nat → Nat} {o1 : Nat} {u1 : Nat → Nat} {r1 : TK} {o2 : Nat} {u2 : Nat → Nat} {r2 : TM} {w : Nat} {μ : Mm} (h : mw μ = stW cy ad o1 u1 r1 o2 u2 r2 w) : RG stP (stq cy ad o1 u1 r1 o2 u2 r2 w) (stC cy ad o1 u1 r1 o2 u2 r2 w) μ := fun k hk => mat_of h (stW_at cy ad o1 u1 r1 o2 u2 r2 w hk)
theorem stIJ {A : Nat → Prop} {cy : Nat → ClassId} {ad : Nat → Nat} {o1 : Nat} {u1 : Nat → Nat} {r1 : TK} {o2 : Nat} {u2 : Nat → Nat} {r2 : TM} {w : Nat} (h : va_D A (stW cy ad o1 u1 r1 o2 u2 r2 w)) : IJ stP (stq cy ad o1 u1 r1 o2 u2 r2 w) := fun i j hi hj e => by
  have e1 := h.1 _ _ _ _ (stW_at cy ad o1 u1 r1 o2 u2 r2 w hi) (stW_at cy ad o1 u1 r1 o2 u2 r2 w hj) e
  obtain ⟨i1, i2⟩ := stP_lt hi
  obtain ⟨j1, j2⟩ := stP_lt hj
  have h1 := stP_iv i i1 i2
  have h2 := stP_iv j j1 j2
  rw [e1] at h1
  exact h1.symm.trans h2
-- the keeper's constructor
def kR0 (res : TK) : Prop := ((res.1 = 0 ∧ res.2.1 = 1 ∧ (∀ j, j < 10 → res.2.2.1 j = tbx 0 j ∧ res.2.2.2.1 j = tby 0 j) ∧ Tv res.2.2.2.2.1 10 = 1 ∧ sz res.2.2.2.2.1 2) ∧ (res.2.2.2.2.2.1 = 0 ∧ res.2.2.2.2.2.2.1 = 1 ∧ (∀ j, j < 10 → res.2.2.2.2.2.2.2.1 j = tbx 1 j ∧ res.2.2.2.2.2.2.2.2.1 j = tby 1 j) ∧ Tv res.2.2.2.2.2.2.2.2.2.1 10 = 1 ∧ sz res.2.2.2.2.2.2.2.2.2.1 2) ∧ (res.2.2.2.2.2.2.2.2.2.2.1 = 0 ∧ res.2.2.2.2.2.2.2.2.2.2.2.1 = 1 ∧ (∀ j, j < 10 → res.2.2.2.2.2.2.2.2.2.2.2.2.1 j = tbx 2 j ∧ res.2.2.2.2.2.2.2.2.2.2.2.2.2.1 j = tby 2 j) ∧ Tv res.2.2.2.2.2.2.2.2.2.2.2.2.2.2.1 10 = 1 ∧ sz res.2.2.2.2.2.2.2.2.2.2.2.2.2.2.1 2) ∧ (res.2.2.2.2.2.2.2.2.2.2.2.2.2.2.2.1 = 0 ∧ res.2.2.2.2.2.2.2.2.2.2.2.2.2.2.2.2.1 = 1 ∧ (∀ j, j < 10 → res.2.2.2.2.2.2.2.2.2.2.2.2.2.2.2.2.2.1 j = tbx 3 j ∧ res.2.2.2.2.2.2.2.2.2.2.2.2.2.2.2.2.2.2.1 j = tby 3 j) ∧ Tv res.2.2.2.2.2.2.2.2.2.2.2.2.2.2.2.2.2.2.2.1 10 = 1 ∧ sz res.2.2.2.2.2.2.2.2.2.2.2.2.2.2.2.2.2.2.2.1 2) ∧ (res.2.2.2.2.2.2.2.2.2.2.2.2.2.2.2.2.2.2.2.2.1 = 0 ∧ res.2.2.2.2.2.2.2.2.2.2.2.2.2.2.2.2.2.2.2.2.2.1 = 1 ∧ (∀ j, j < 10 → res.2.2.2.2.2.2.2.2.2.2.2.2.2.2.2.2.2.2.2.2.2.2.1 j = tbx 4 j ∧ res.2.2.2.2.2.2.2.2.2.2.2.2.2.2.2.2.2.2.2.2.2.2.2.1 j = tby 4 j) ∧ Tv res.2.2.2.2.2.2.2.2.2.2.2.2.2.2.2.2.2.2.2.2.2.2.2.2.1 10 = 1 ∧ sz res.2.2.2.2.2.2.2.2.2.2.2.2.2.2.2.2.2.2.2.2.2.2.2.2.1 2) ∧ (res.2.2.2.2.2.2.2.2.2.2.2.2.2.2.2.2.2.2.2.2.2.2.2.2.2.1 = 0 ∧ res.2.2.2.2.2.2.2.2.2.2.2.2.2.2.2.2.2.2.2.2.2.2.2.2.2.2.1 = 1 ∧ (∀ j, j < 10 → res.2.2.2.2.2.2.2.2.2.2.2.2.2.2.2.2.2.2.2.2.2.2.2.2.2.2.2.1 j = tbx 5 j ∧ res.2.2.2.2.2.2.2.2.2.2.2.2.2.2.2.2.2.2.2.2.2.2.2.2.2.2.2.2.1 j = tby 5 j) ∧ Tv res.2.2.2.2.2.2.2.2.2.2.2.2.2.2.2.2.2.2.2.2.2.2.2.2.2.2.2.2.2.1 10 = 1 ∧ sz res.2.2.2.2.2.2.2.2.2.2.2.2.2.2.2.2.2.2.2.2.2.2.2.2.2.2.2.2.2.1 2) ∧ (res.2.2.2.2.2.2.2.2.2.2.2.2.2.2.2.2.2.2.2.2.2.2.2.2.2.2.2.2.2.2.1 = 0 ∧ res.2.2.2.2.2.2.2.2.2.2.2.2.2.2.2.2.2.2.2.2.2.2.2.2.2.2.2.2.2.2.2.1 = 1 ∧ (∀ j, j < 10 → res.2.2.2.2.2.2.2.2.2.2.2.2.2.2.2.2.2.2.2.2.2.2.2.2.2.2.2.2.2.2.2.2.1 j = tbx 6 j ∧ res.2.2.2.2.2.2.2.2.2.2.2.2.2.2.2.2.2.2.2.2.2.2.2.2.2.2.2.2.2.2.2.2.2.1 j = tby 6 j) ∧ Tv res.2.2.2.2.2.2.2.2.2.2.2.2.2.2.2.2.2.2.2.2.2.2.2.2.2.2.2.2.2.2.2.2.2.2.1 10 = 1 ∧ sz res.2.2.2.2.2.2.2.2.2.2.2.2.2.2.2.2.2.2.2.2.2.2.2.2.2.2.2.2.2.2.2.2.2.2.1 2) ∧ (res.2.2.2.2.2.2.2.2.2.2.2.2.2.2.2.2.2.2.2.2.2.2.2.2.2.2.2.2.2.2.2.2.2.2.2.1 = 0 ∧ res.2.2.2.2.2.2.2.2.2.2.2.2.2.2.2.2.2.2.2.2.2.2.2.2.2.2.2.2.2.2.2.2.2.2.2.2.1 = 1 ∧ (∀ j, j < 10 → res.2.2.2.2.2.2.2.2.2.2.2.2.2.2.2.2.2.2.2.2.2.2.2.2.2.2.2.2.2.2.2.2.2.2.2.2.2.1 j = tbx 7 j ∧ res.2.2.2.2.2.2.2.2.2.2.2.2.2.2.2.2.2.2.2.2.2.2.2.2.2.2.2.2.2.2.2.2.2.2.2.2.2.2.1 j = tby 7 j) ∧ Tv res.2.2.2.2.2.2.2.2.2.2.2.2.2.2.2.2.2.2.2.2.2.2.2.2.2.2.2.2.2.2.2.2.2.2.2.2.2.2.2.1 10 = 1 ∧ sz res.2.2.2.2.2.2.2.2.2.2.2.2.2.2.2.2.2.2.2.2.2.2.2.2.2.2.2.2.2.2.2.2.2.2.2.2.2.2.2.1 2)) ∧ (ftB res.2.2.2.2.2.2.2.2.2.2.2.2.2.2.2.2.2.2.2.2.2.2.2.2.2.2.2.2.2.2.2.2.2.2.2.2.2.2.2.2.1 ∧ smD res.2.2.2.2.2.2.2.2.2.2.2.2.2.2.2.2.2.2.2.2.2.2.2.2.2.2.2.2.2.2.2.2.2.2.2.2.2.2.2.2.1) ∧ res.2.2.2.2.2.2.2.2.2.2.2.2.2.2.2.2.2.2.2.2.2.2.2.2.2.2.2.2.2.2.2.2.2.2.2.2.2.2.2.2.2.2.2.1 = 1 ∧ res.2.2.2.2.2.2.2.2.2.2.2.2.2.2.2.2.2.2.2.2.2.2.2.2.2.2.2.2.2.2.2.2.2.2.2.2.2.2.2.2.2.2.2.2.2.1 = 0 ∧ res.2.2.2.2.2.2.2.2.2.2.2.2.2.2.2.2.2.2.2.2.2.2.2.2.2.2.2.2.2.2.2.2.2.2.2.2.2.2.2.2.2.2.2.2.2.2.1 = lN 1000000 ∧ res.2.2.2.2.2.2.2.2.2.2.2.2.2.2.2.2.2.2.2.2.2.2.2.2.2.2.2.2.2.2.2.2.2.2.2.2.2.2.2.2.2.2.2.2.2.2.2.1 = 545259519 ∧ res.2.2.2.2.2.2.2.2.2.2.2.2.2.2.2.2.2.2.2.2.2.2.2.2.2.2.2.2.2.2.2.2.2.2.2.2.2.2.2.2.2.2.2.2.2.2.2.2 = lN 2
theorem ma_nar : ∀ i, i < 17 → vp_nar .byte ((nI i).toInt8.toInt32) = (nI i).toInt8.toInt32 ∧ (nI i).toInt8.toInt32 = nI i := by decide +kernel
theorem Ma_l (fu : Nat) : ∀ r i n (u : Nat → Int32), i + r = 17 → 1 ≤ i → r < n → ftB u → u 32 = -127 → (∀ k, 1 ≤ k → k < i → u (32 + k) = nI k) → ok (x_Ma_init_79 fu 0 0 0 0 0 0 0 0 0 n (nI i) u) (fun D => ftB D ∧ smD D)
  | 0, i, 0, u, hi, h1, hn, hu, h32, hk => absurd hn (Nat.lt_irrefl _)
  | 0, i, n + 1, u, hi, h1, hn, hu, h32, hk => by
    have e : i = 17 := by omega
    subst e
    refine ⟨u, ?_, hu, h32, fun k k1 k2 => hk k k1 (by omega)⟩
    rfl
  | r + 1, i, 0, u, hi, h1, hn, hu, h32, hk => absurd hn (by omega)
  | r + 1, i, n + 1, u, hi, h1, hn, hu, h32, hk => by
    obtain ⟨n1, n2⟩ := ma_nar i (by omega)
    have key := Ma_l fu r (i + 1) n (upd u (32 + i) ((nI i).toInt8.toInt32)) (by omega) (by omega) (by omega) (ftB_u hu _ _) (by
      rw [pk_un (by omega)]; exact h32) (fun k k1 k2 => by
      by_cases e : k = i
      · subst e
        rw [pk_us]; exact n2
      · rw [pk_un (by omega)]; exact hk k k1 (by omega))
    obtain ⟨D, d1, d2⟩ := key
    refine ⟨D, ?_, d2⟩
    show (if (16 : Int32) < nI i then some u else bnd ((32 : Int32) + nI i) fun v1 => bnd ((nI i).toInt8.toInt32) fun v2 => gd (inb v1 14928) <| bnd (upd u v1.toNatClampNeg (vp_nar .byte v2)) fun f3 => bnd (nI i + (1 : Int32)) fun v4 => x_Ma_init_79 fu 0 0 0 0 0 0 0 0 0 n v4 f3) = some D
    rw [if_neg (show ¬ (16 : Int32) < nI i from fun g => absurd ((nI_ltI (a := 16) (b := i) (by omega) (by omega)).mp g) (by omega))]
    show gd (inb ((32 : Int32) + nI i) 14928) (x_Ma_init_79 fu 0 0 0 0 0 0 0 0 0 n (nI i + 1) (upd u ((32 : Int32) + nI i).toNatClampNeg (vp_nar .byte ((nI i).toInt8.toInt32)))) = some D
    rw [show (32 : Int32) + nI i = nI (32 + i) from nI_add 32 i, show nI i + 1 = nI (i + 1) from nI_add i 1, nI_clamp (n := 32 + i) (by omega), n1]
    have hin : inb (nI (32 + i)) 14928 = true := inb_nI (by omega) (by omega)
    unfold gd
    rw [hin, if_pos rfl]
    exact d1
theorem Ma_init0 (fu : Nat) (hfu : 100 ≤ fu) : ok (x_Ma_init fu 0 0 0 0 0 0 0 0 0) (fun D => ftB D ∧ smD D) := by
  have hz : ftB (fun _ => 0) := fun j => rfl
  exact Ma_l fu 16 1 fu (upd (fun _ => 0) 32 (-127)) (by decide) (by decide) (by omega) (fun j => by
    by_cases e : j = 32
    · subst e; rfl
    · rw [pk_un e]; rfl) rfl (fun k k1 k2 => absurd k2 (by omega))
set_option maxHeartbeats 4000000 in
set_option maxRecDepth 100000 in
theorem K_init0 (fu : Nat) (hfu : 40000 ≤ fu) : ok (x_K_init fu 0 0 0) kR0 := by
  obtain ⟨⟨e1, e2, f3, f4, f5⟩, a0, b0⟩ := v_Po_becomeBase fu (by omega) (o := 0) (by decide) 0 0 (fun _ => 0) (fun _ => 0) (fun _ => 0)
  replace a0 : x_Po_becomeBase fu (0 : Int32) (0 : Int32) (0 : Int32) (fun _ => 0) (fun _ => 0) (fun _ => 0) = some (e1, e2, f3, f4, f5) := a0
  obtain ⟨⟨e6, e7, f8, f9, f10⟩, a1, b1⟩ := v_Po_becomeBase fu (by omega) (o := 1) (by decide) 0 0 (fun _ => 0) (fun _ => 0) (fun _ => 0)
  replace a1 : x_Po_becomeBase fu (1 : Int32) (0 : Int32) (0 : Int32) (fun _ => 0) (fun _ => 0) (fun _ => 0) = some (e6, e7, f8, f9, f10) := a1
  obtain ⟨⟨e11, e12, f13, f14, f15⟩, a2, b2⟩ := v_Po_becomeBase fu (by omega) (o := 2) (by decide) 0 0 (fun _ => 0) (fun _ => 0) (fun _ => 0)
  replace a2 : x_Po_becomeBase fu (2 : Int32) (0 : Int32) (0 : Int32) (fun _ => 0) (fun _ => 0) (fun _ => 0) = some (e11, e12, f13, f14, f15) := a2
  obtain ⟨⟨e16, e17, f18, f19, f20⟩, a3, b3⟩ := v_Po_becomeBase fu (by omega) (o := 3) (by decide) 0 0 (fun _ => 0) (fun _ => 0) (fun _ => 0)
  replace a3 : x_Po_becomeBase fu (3 : Int32) (0 : Int32) (0 : Int32) (fun _ => 0) (fun _ => 0) (fun _ => 0) = some (e16, e17, f18, f19, f20) := a3
  obtain ⟨⟨e21, e22, f23, f24, f25⟩, a4, b4⟩ := v_Po_becomeBase fu (by omega) (o := 4) (by decide) 0 0 (fun _ => 0) (fun _ => 0) (fun _ => 0)
  replace a4 : x_Po_becomeBase fu (4 : Int32) (0 : Int32) (0 : Int32) (fun _ => 0) (fun _ => 0) (fun _ => 0) = some (e21, e22, f23, f24, f25) := a4
  obtain ⟨⟨e26, e27, f28, f29, f30⟩, a5, b5⟩ := v_Po_becomeBase fu (by omega) (o := 5) (by decide) 0 0 (fun _ => 0) (fun _ => 0) (fun _ => 0)
  replace a5 : x_Po_becomeBase fu (5 : Int32) (0 : Int32) (0 : Int32) (fun _ => 0) (fun _ => 0) (fun _ => 0) = some (e26, e27, f28, f29, f30) := a5
  obtain ⟨⟨e31, e32, f33, f34, f35⟩, a6, b6⟩ := v_Po_becomeBase fu (by omega) (o := 6) (by decide) 0 0 (fun _ => 0) (fun _ => 0) (fun _ => 0)
  replace a6 : x_Po_becomeBase fu (6 : Int32) (0 : Int32) (0 : Int32) (fun _ => 0) (fun _ => 0) (fun _ => 0) = some (e31, e32, f33, f34, f35) := a6
  obtain ⟨⟨e36, e37, f38, f39, f40⟩, a7, b7⟩ := v_Po_becomeBase fu (by omega) (o := 7) (by decide) 0 0 (fun _ => 0) (fun _ => 0) (fun _ => 0)
  replace a7 : x_Po_becomeBase fu (7 : Int32) (0 : Int32) (0 : Int32) (fun _ => 0) (fun _ => 0) (fun _ => 0) = some (e36, e37, f38, f39, f40) := a7
  have hSi : x_Si_init fu = some (e1, e2, f3, f4, f5, e6, e7, f8, f9, f10, e11, e12, f13, f14, f15, e16, e17, f18, f19, f20, e21, e22, f23, f24, f25, e26, e27, f28, f29, f30, e31, e32, f33, f34, f35, e36, e37, f38, f39, f40) := by
    unfold x_Si_init x_Cu_init x_Po_init
    simp only [a0, a1, a2, a3, a4, a5, a6, a7, bd1, bd5, Option.bind_some]
  obtain ⟨D, d1, d2⟩ := Ma_init0 fu (by omega)
  have hW : x_Bl_workOf fu (545259519 : Int32) = some (lN 2) := by rw [v_workOf fu (by omega) gb0, Tg0.2.2]
  refine ⟨(e1, e2, f3, f4, f5, e6, e7, f8, f9, f10, e11, e12, f13, f14, f15, e16, e17, f18, f19, f20, e21, e22, f23, f24, f25, e26, e27, f28, f29, f30, e31, e32, f33, f34, f35, e36, e37, f38, f39, f40, D, 0, 0, 1, 1, 0, lN 1000000, 545259519, lN 2), ?_, ⟨b0, b1, b2, b3, b4, b5, b6, b7⟩, d2, rfl, rfl, rfl, rfl, rfl⟩
  unfold x_K_init x_Sh_init x_La_init x_Le_init x_Al_init x_Ab_init x_Ac_init x_Bl_init_z1
  simp only [hSi, d1, hW, bd1, bd2, bd3, bd4, bd40, Option.bind_some, bnd]
  rfl
def stL (res : TK) (k : Nat) : Nat → Int64 := 
  if k = 31 then res.2.2.1 else if k = 32 then res.2.2.2.1 else if k = 33 then res.2.2.2.2.1 else if k = 35 then res.2.2.2.2.2.2.2.1 else if k = 36 then res.2.2.2.2.2.2.2.2.1 else if k = 37 then res.2.2.2.2.2.2.2.2.2.1 else if k = 39 then res.2.2.2.2.2.2.2.2.2.2.2.2.1 else if k = 40 then res.2.2.2.2.2.2.2.2.2.2.2.2.2.1 else if k = 41 then res.2.2.2.2.2.2.2.2.2.2.2.2.2.2.1 else if k = 43 then res.2.2.2.2.2.2.2.2.2.2.2.2.2.2.2.2.2.1 else if k = 44 then res.2.2.2.2.2.2.2.2.2.2.2.2.2.2.2.2.2.2.1 else if k = 45 then res.2.2.2.2.2.2.2.2.2.2.2.2.2.2.2.2.2.2.2.1 else if k = 47 then res.2.2.2.2.2.2.2.2.2.2.2.2.2.2.2.2.2.2.2.2.2.2.1 else if k = 48 then res.2.2.2.2.2.2.2.2.2.2.2.2.2.2.2.2.2.2.2.2.2.2.2.1 else if k = 49 then res.2.2.2.2.2.2.2.2.2.2.2.2.2.2.2.2.2.2.2.2.2.2.2.2.1 else if k = 51 then res.2.2.2.2.2.2.2.2.2.2.2.2.2.2.2.2.2.2.2.2.2.2.2.2.2.2.2.1 else if k = 52 then res.2.2.2.2.2.2.2.2.2.2.2.2.2.2.2.2.2.2.2.2.2.2.2.2.2.2.2.2.1 else if k = 53 then res.2.2.2.2.2.2.2.2.2.2.2.2.2.2.2.2.2.2.2.2.2.2.2.2.2.2.2.2.2.1 else if k = 55 then res.2.2.2.2.2.2.2.2.2.2.2.2.2.2.2.2.2.2.2.2.2.2.2.2.2.2.2.2.2.2.2.2.1 else if k = 56 then res.2.2.2.2.2.2.2.2.2.2.2.2.2.2.2.2.2.2.2.2.2.2.2.2.2.2.2.2.2.2.2.2.2.1 else if k = 57 then res.2.2.2.2.2.2.2.2.2.2.2.2.2.2.2.2.2.2.2.2.2.2.2.2.2.2.2.2.2.2.2.2.2.2.1 else if k = 59 then res.2.2.2.2.2.2.2.2.2.2.2.2.2.2.2.2.2.2.2.2.2.2.2.2.2.2.2.2.2.2.2.2.2.2.2.2.2.1 else if k = 60 then res.2.2.2.2.2.2.2.2.2.2.2.2.2.2.2.2.2.2.2.2.2.2.2.2.2.2.2.2.2.2.2.2.2.2.2.2.2.2.1 else if k = 61 then res.2.2.2.2.2.2.2.2.2.2.2.2.2.2.2.2.2.2.2.2.2.2.2.2.2.2.2.2.2.2.2.2.2.2.2.2.2.2.2.1 else fun _ => 0
def stB (res : TK) (k : Nat) : Nat → Int32 := 
  if k = 30 then (fun j => if j = 0 then res.1 else res.2.1) else if k = 34 then (fun j => if j = 0 then res.2.2.2.2.2.1 else res.2.2.2.2.2.2.1) else if k = 38 then (fun j => if j = 0 then res.2.2.2.2.2.2.2.2.2.2.1 else res.2.2.2.2.2.2.2.2.2.2.2.1) else if k = 42 then (fun j => if j = 0 then res.2.2.2.2.2.2.2.2.2.2.2.2.2.2.2.1 else res.2.2.2.2.2.2.2.2.2.2.2.2.2.2.2.2.1) else if k = 46 then (fun j => if j = 0 then res.2.2.2.2.2.2.2.2.2.2.2.2.2.2.2.2.2.2.2.2.1 else res.2.2.2.2.2.2.2.2.2.2.2.2.2.2.2.2.2.2.2.2.2.1) else if k = 50 then (fun j => if j = 0 then res.2.2.2.2.2.2.2.2.2.2.2.2.2.2.2.2.2.2.2.2.2.2.2.2.2.1 else res.2.2.2.2.2.2.2.2.2.2.2.2.2.2.2.2.2.2.2.2.2.2.2.2.2.2.1) else if k = 54 then (fun j => if j = 0 then res.2.2.2.2.2.2.2.2.2.2.2.2.2.2.2.2.2.2.2.2.2.2.2.2.2.2.2.2.2.2.1 else res.2.2.2.2.2.2.2.2.2.2.2.2.2.2.2.2.2.2.2.2.2.2.2.2.2.2.2.2.2.2.2.1) else if k = 58 then (fun j => if j = 0 then res.2.2.2.2.2.2.2.2.2.2.2.2.2.2.2.2.2.2.2.2.2.2.2.2.2.2.2.2.2.2.2.2.2.2.2.1 else res.2.2.2.2.2.2.2.2.2.2.2.2.2.2.2.2.2.2.2.2.2.2.2.2.2.2.2.2.2.2.2.2.2.2.2.2.1) else fun _ => 0
def stR (u : Nat → Nat) (k : Nat) : Nat → Option Nat := if k = 2 then ml_l [(u 9), (u 10), (u 11), (u 12), (u 13), (u 14)] else if k = 3 then ml_l [(u 27), (u 28), (u 29), (u 30)] else if k = 4 then va_up (va_up (va_up (va_up (va_up (va_up (va_up (va_up (fun _ => none) 0 (some (u 43))) 1 (some (u 51))) 2 (some (u 59))) 3 (some (u 67))) 4 (some (u 75))) 5 (some (u 83))) 6 (some (u 91))) 7 (some (u 99)) else va_up (va_up (va_up (va_up (va_up (va_up (va_up (va_up (fun _ => none) 0 (some (u 47))) 1 (some (u 55))) 2 (some (u 63))) 3 (some (u 71))) 4 (some (u 79))) 5 (some (u 87))) 6 (some (u 95))) 7 (some (u 103))
set_option maxHeartbeats 8000000 in
set_option maxRecDepth 100000 in
theorem st_sg (cy : Nat → ClassId) (ad : Nat → Nat) (o1 : Nat) (u1 : Nat → Nat) (r1 : TK) (o2 : Nat) (u2 : Nat → Nat) (r2 : TM) (w : Nat) : ∀ k, k < 102 ∧ k ≠ 29 → stC cy ad o1 u1 r1 o2 u2 r2 w k = sgC (stq cy ad o1 u1 r1 o2 u2 r2 w) cy 14928 (stR u1) (stL r1) (stB r1) k
  | 0, _ => rfl
  | 1, _ => rfl
  | 2, _ => rfl
  | 3, _ => rfl
  | 4, _ => rfl
  | 5, _ => rfl
  | 6, _ => rfl
  | 7, _ => rfl
  | 8, _ => rfl
  | 9, _ => rfl
  | 10, _ => rfl
  | 11, _ => rfl
  | 12, _ => rfl
  | 13, _ => rfl
  | 14, _ => rfl
  | 15, _ => rfl
  | 16, _ => rfl
  | 17, _ => rfl
  | 18, _ => rfl
  | 19, _ => rfl
  | 20, _ => rfl
  | 21, _ => rfl
  | 22, _ => rfl
  | 23, _ => rfl
  | 24, _ => rfl
  | 25, _ => rfl
  | 26, _ => rfl
  | 27, _ => rfl
  | 28, _ => rfl
  | 29, h => absurd rfl h.2
  | 30, _ => rfl
  | 31, _ => rfl
  | 32, _ => rfl
  | 33, _ => rfl
  | 34, _ => rfl
  | 35, _ => rfl
  | 36, _ => rfl
  | 37, _ => rfl
  | 38, _ => rfl
  | 39, _ => rfl
  | 40, _ => rfl
  | 41, _ => rfl
  | 42, _ => rfl
  | 43, _ => rfl
  | 44, _ => rfl
  | 45, _ => rfl
  | 46, _ => rfl
  | 47, _ => rfl
  | 48, _ => rfl
  | 49, _ => rfl
  | 50, _ => rfl
  | 51, _ => rfl
  | 52, _ => rfl
  | 53, _ => rfl
  | 54, _ => rfl
  | 55, _ => rfl
  | 56, _ => rfl
  | 57, _ => rfl
  | 58, _ => rfl
  | 59, _ => rfl
  | 60, _ => rfl
  | 61, _ => rfl
  | 62, _ => rfl
  | 63, _ => rfl
  | 64, _ => rfl
  | 65, _ => rfl
  | 66, _ => rfl
  | 67, _ => rfl
  | 68, _ => rfl
  | 69, _ => rfl
  | 70, _ => rfl
  | 71, _ => rfl
  | 72, _ => rfl
  | 73, _ => rfl
  | 74, _ => rfl
  | 75, _ => rfl
  | 76, _ => rfl
  | 77, _ => rfl
  | 78, _ => rfl
  | 79, _ => rfl
  | 80, _ => rfl
  | 81, _ => rfl
  | 82, _ => rfl
  | 83, _ => rfl
  | 84, _ => rfl
  | 85, _ => rfl
  | 86, _ => rfl
  | 87, _ => rfl
  | 88, _ => rfl
  | 89, _ => rfl
  | 90, _ => rfl
  | 91, _ => rfl
  | 92, _ => rfl
  | 93, _ => rfl
  | 94, _ => rfl
  | 95, _ => rfl
  | 96, _ => rfl
  | 97, _ => rfl
  | 98, _ => rfl
  | 99, _ => rfl
  | 100, _ => rfl
  | 101, _ => rfl
  | n + 102, h => absurd h.1 (by omega)
set_option maxHeartbeats 8000000 in
set_option maxRecDepth 100000 in
theorem st_rf (cy : Nat → ClassId) (ad : Nat → Nat) (o1 : Nat) (u1 : Nat → Nat) (r1 : TK) (o2 : Nat) (u2 : Nat → Nat) (r2 : TM) (w : Nat) : ∀ i, rfN i → stC cy ad o1 u1 r1 o2 u2 r2 w (138 + i) = rfC cy (A0 r2) (fun _ => 0) i
  | 0, _ => rfl
  | 1, _ => rfl
  | 2, _ => rfl
  | 3, _ => rfl
  | 4, _ => rfl
  | 5, _ => rfl
  | 6, _ => rfl
  | 7, _ => rfl
  | 8, _ => rfl
  | 9, _ => rfl
  | 10, _ => rfl
  | 11, _ => rfl
  | 12, _ => rfl
  | 13, _ => rfl
  | 14, _ => rfl
  | 15, _ => rfl
  | 16, _ => rfl
  | 17, _ => rfl
  | 18, _ => rfl
  | 19, _ => rfl
  | 20, _ => rfl
  | 21, _ => rfl
  | 22, _ => rfl
  | 23, _ => rfl
  | 24, _ => rfl
  | 25, _ => rfl
  | 26, _ => rfl
  | 27, _ => rfl
  | 28, _ => rfl
  | 29, _ => rfl
  | 30, _ => rfl
  | 31, _ => rfl
  | 32, _ => rfl
  | 33, _ => rfl
  | 34, _ => rfl
  | 35, _ => rfl
  | 36, _ => rfl
  | 37, _ => rfl
  | 38, _ => rfl
  | 39, _ => rfl
  | 40, _ => rfl
  | 41, _ => rfl
  | 42, _ => rfl
  | 43, _ => rfl
  | 44, _ => rfl
  | 45, _ => rfl
  | 46, h => absurd rfl h.2.1
  | 47, h => absurd rfl h.2.2
  | 48, _ => rfl
  | 49, _ => rfl
  | 50, _ => rfl
  | 51, _ => rfl
  | 52, _ => rfl
  | 53, _ => rfl
  | 54, _ => rfl
  | 55, _ => rfl
  | 56, _ => rfl
  | 57, _ => rfl
  | 58, _ => rfl
  | 59, _ => rfl
  | 60, _ => rfl
  | 61, _ => rfl
  | 62, _ => rfl
  | 63, _ => rfl
  | 64, _ => rfl
  | 65, _ => rfl
  | 66, _ => rfl
  | 67, _ => rfl
  | 68, _ => rfl
  | 69, _ => rfl
  | 70, _ => rfl
  | 71, _ => rfl
  | 72, _ => rfl
  | 73, _ => rfl
  | 74, _ => rfl
  | 75, _ => rfl
  | 76, _ => rfl
  | 77, _ => rfl
  | n + 78, h => absurd h.1 (by omega)
