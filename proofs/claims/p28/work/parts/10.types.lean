/-! What the objects hold, as values, and their cells. -/
abbrev EV : Type := Int32 × FF × FF × FF × FF × FF
abbrev WV : Type := FF × FF × Int32 × Int32 × Int32 × Int32
abbrev FV : Type := Int32 × FF × FF × FF × WV
abbrev LV : Type := Int32 × FF × FF × FF
abbrev HV : Type := EV × FV × LV × Int32 × Bool × Int32 × Int32 × Int32 × Int32 × Int32 × Int32
abbrev TV : Type := FF × Int32 × Int32 × Int32
abbrev MV : Type := FF × FF × FF × FF × Int32 × FF × Int32 × Int32 × Int32 × Int32 × Int64
abbrev CV : Type := HV × HV × ((Nat → Nat) × HV × HV × HV × HV) × Int32 × TV
def zX0 (g : zG) (a : Nat → Nat) (v : EV) : va_W := [(a 0, .inr (0, [.int v.1, .ref (a 1), .ref (a 2), .ref (a 3), .ref (a 4), .ref (a 5)])), (a 1, .inl (g.2.1, 12, .inl v.2.1)), (a 2, .inl (g.2.1, 12, .inl v.2.2.1)), (a 3, .inl (g.2.1, 12, .inl v.2.2.2.1)), (a 4, .inl (g.2.1, 12, .inl v.2.2.2.2.1)), (a 5, .inl (g.2.1, 12, .inl v.2.2.2.2.2))]
def zX4 (g : zG) (a : Nat → Nat) (v : WV) : va_W := [(a 0, .inr (4, [.ref (a 1), .ref (a 2), .int v.2.2.1, .int v.2.2.2.1, .int v.2.2.2.2.1, .int v.2.2.2.2.2])), (a 1, .inl (g.2.1, 10, .inl v.1)), (a 2, .inl (g.2.1, 10, .inl v.2.1))]
def zX1 (g : zG) (a : Nat → Nat) (v : FV) : va_W := [(a 0, .inr (1, [.int v.1, .ref (a 1), .ref (a 2), .ref (a 3), .ref (a 4)])), (a 1, .inl (g.2.1, 10, .inl v.2.1)), (a 2, .inl (g.2.1, 10, .inl v.2.2.1)), (a 3, .inl (g.2.1, 10, .inl v.2.2.2.1))] ++ (zX4 g (fun k => a (k + 4)) v.2.2.2.2)
def zX3 (g : zG) (a : Nat → Nat) (v : LV) : va_W := [(a 0, .inr (3, [.int v.1, .ref (a 1), .ref (a 2), .ref (a 3)])), (a 1, .inl (g.2.1, 35, .inl v.2.1)), (a 2, .inl (g.2.1, 35, .inl v.2.2.1)), (a 3, .inl (g.2.1, 35, .inl v.2.2.2))]
def zX2 (g : zG) (a : Nat → Nat) (v : HV) : va_W := [(a 0, .inr (2, [.ref (a 1), .ref (a 7), .ref (a 14), .int v.2.2.2.1, .int (zb v.2.2.2.2.1), .int v.2.2.2.2.2.1, .int v.2.2.2.2.2.2.1, .int v.2.2.2.2.2.2.2.1, .int v.2.2.2.2.2.2.2.2.1, .int v.2.2.2.2.2.2.2.2.2.1, .int v.2.2.2.2.2.2.2.2.2.2]))] ++ (zX0 g (fun k => a (k + 1)) v.1 ++ (zX1 g (fun k => a (k + 7)) v.2.1 ++ (zX3 g (fun k => a (k + 14)) v.2.2.1)))
def zX5 (g : zG) (a : Nat → Nat) (v : TV) : va_W := [(a 0, .inr (5, [.ref (a 1), .int v.2.1, .int v.2.2.1, .int v.2.2.2])), (a 1, .inl (g.2.1, 100, .inl v.1))]
def zX6 (g : zG) (a : Nat → Nat) (v : CV) : va_W := [(a 0, .inr (6, [.ref (a 1), .ref (a 19), .ref (a 37), .int v.2.2.2.1, .ref (a 38)]))] ++ (zX2 g (fun k => a (k + 1)) v.1 ++ (zX2 g (fun k => a (k + 19)) v.2.1 ++ ([(a 37, .inl (g.2.2.1, 4, .inr (.inr (.inr (.inr (fun j => some (a (40 + 18 * v.2.2.1.1 j))))))))] ++ (zX5 g (fun k => a (k + 38)) v.2.2.2.2 ++ (zX2 g (fun k => a (k + 40)) v.2.2.1.2.1 ++ (zX2 g (fun k => a (k + 58)) v.2.2.1.2.2.1 ++ (zX2 g (fun k => a (k + 76)) v.2.2.1.2.2.2.1 ++ zX2 g (fun k => a (k + 94)) v.2.2.1.2.2.2.2)))))))
abbrev GV : Type := Int32 × FF × FF × FF
def zX1s (g : zG) (a : Nat → Nat) (q : Nat) (v : GV) : va_W := [(a 0, .inr (1, [.int v.1, .ref (a 1), .ref (a 2), .ref (a 3), .ref q])), (a 1, .inl (g.2.1, 10, .inl v.2.1)), (a 2, .inl (g.2.1, 10, .inl v.2.2.1)), (a 3, .inl (g.2.1, 10, .inl v.2.2.2))]
