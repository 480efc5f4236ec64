def fl0 (a : Nat → Nat → Nat) (u : zSt) : List Value := [.int (u.1 0), .int (u.1 1), .int (u.1 2), .ref (a 0 3), .int (u.1 4)]
def wl0 (a : Nat → Nat → Nat) (cI cZ : ClassId) (u : zSt) : va_W := [(a 0 99, .inr (0, fl0 a u)), (a 0 3, .inl (cI, 60, .inl (u.2 3)))]
def fl1 (a : Nat → Nat → Nat) (u : zSt) : List Value := [.ref (a 1 0), .ref (a 1 1), .ref (a 1 2), .ref (a 1 3), .int (u.1 4), .ref (a 1 5), .int (u.1 6), .int (u.1 7), .int (u.1 8), .ref (a 1 9), .int (u.1 10), .int (u.1 11), .ref (a 1 12), .ref (a 1 13), .ref (a 1 14), .ref (a 1 15)]
def wl1 (a : Nat → Nat → Nat) (cI cZ : ClassId) (u : zSt) : va_W := [(a 1 99, .inr (1, fl1 a u)), (a 1 0, .inl (cI, 6, .inl (u.2 0))), (a 1 1, .inl (cI, 6, .inl (u.2 1))), (a 1 2, .inl (cI, 6, .inl (u.2 2))), (a 1 3, .inl (cI, 6, .inl (u.2 3))), (a 1 5, .inl (cI, 6, .inl (u.2 5))), (a 1 9, .inl (cI, 6, .inl (u.2 9))), (a 1 12, .inl (cI, 7, .inl (u.2 12))), (a 1 13, .inl (cI, 7, .inl (u.2 13))), (a 1 14, .inl (cI, 7, .inl (u.2 14))), (a 1 15, .inl (cI, 7, .inl (u.2 15)))]
def fl2 (a : Nat → Nat → Nat) (u : zSt) : List Value := [.ref (a 2 0), .int (u.1 1), .ref (a 2 2), .ref (a 2 3), .ref (a 2 4), .int (u.1 5), .ref (a 2 6)]
def wl2 (a : Nat → Nat → Nat) (cI cZ : ClassId) (u : zSt) : va_W := [(a 2 99, .inr (2, fl2 a u)), (a 2 0, .inl (cI, 10, .inl (u.2 0))), (a 2 2, .inl (cI, 6, .inl (u.2 2))), (a 2 3, .inl (cI, 6, .inl (u.2 3))), (a 2 4, .inl (cI, 6, .inl (u.2 4))), (a 2 6, .inl (cI, 10, .inl (u.2 6)))]
def fl3 (a : Nat → Nat → Nat) (u : zSt) : List Value := [.ref (a 3 0), .ref (a 3 1), .ref (a 3 2), .ref (a 3 3), .ref (a 3 4), .int (u.1 5), .ref (a 3 6), .int (u.1 7), .int (u.1 8)]
def wl3 (a : Nat → Nat → Nat) (cI cZ : ClassId) (u : zSt) : va_W := [(a 3 99, .inr (3, fl3 a u)), (a 3 0, .inl (cI, 12, .inl (u.2 0))), (a 3 1, .inl (cI, 12, .inl (u.2 1))), (a 3 2, .inl (cI, 12, .inl (u.2 2))), (a 3 3, .inl (cI, 12, .inl (u.2 3))), (a 3 4, .inl (cI, 12, .inl (u.2 4))), (a 3 6, .inl (cI, 60, .inl (u.2 6)))]
def fl4 (a : Nat → Nat → Nat) (u : zSt) : List Value := [.ref (a 4 0), .int (u.1 1), .int (u.1 2), .ref (a 4 3), .ref (a 4 4), .ref (a 4 5), .ref (a 4 6)]
def wl4 (a : Nat → Nat → Nat) (cI cZ : ClassId) (u : zSt) : va_W := [(a 4 99, .inr (4, fl4 a u)), (a 4 0, .inl (cI, 42, .inl (u.2 0))), (a 4 3, .inl (cI, 6, .inl (u.2 3))), (a 4 4, .inl (cI, 6, .inl (u.2 4))), (a 4 5, .inl (cI, 6, .inl (u.2 5))), (a 4 6, .inl (cI, 1944, .inl (u.2 6)))]
def fl5 (a : Nat → Nat → Nat) (u : zSt) : List Value := [.ref (a 5 0), .ref (a 5 1), .ref (a 5 2), .ref (a 5 3), .int (u.1 4), .int (u.1 5)]
def wl5 (a : Nat → Nat → Nat) (cI cZ : ClassId) (u : zSt) : va_W := [(a 5 99, .inr (5, fl5 a u)), (a 5 0, .inl (cI, 100, .inl (u.2 0))), (a 5 1, .inl (cZ, 100, .inl (u.2 1))), (a 5 2, .inl (cI, 100, .inl (u.2 2))), (a 5 3, .inl (cI, 100, .inl (u.2 3)))]
def fl6 (a : Nat → Nat → Nat) : List Value := [.ref (a 1 99), .ref (a 3 99), .ref (a 5 99), .ref (a 0 99), .ref (a 2 99), .ref (a 4 99)]
def wl6 (a : Nat → Nat → Nat) : va_W := [(a 6 99, .inr (6, fl6 a))]
def fl7 (a : Nat → Nat → Nat) (u : zSt) : List Value := [.int (u.1 0), .int (u.1 1), .ref (a 7 2), .ref (a 7 3), .ref (a 7 4), .ref (a 7 5), .int (u.1 6), .ref (a 7 7), .ref (a 7 8), .int (u.1 9), .int (u.1 10), .int (u.1 11), .ref (a 7 12), .ref (a 7 13), .ref (a 7 14), .ref (a 7 15), .ref (a 7 16), .int (u.1 17), .ref (a 7 18), .int (u.1 19), .int (u.1 20), .ref (a 7 21), .ref (a 7 22), .ref (a 7 23), .ref (a 7 24), .int (u.1 25), .int (u.1 26), .int (u.1 27), .int (u.1 28), .ref (a 7 29), .ref (a 7 30), .ref (a 7 31), .ref (a 7 32), .ref (a 7 33), .int (u.1 34), .ref (a 7 35), .ref (a 7 36), .ref (a 7 37), .ref (a 7 38), .int (u.1 39), .int (u.1 40), .ref (a 7 41)]
def wl7 (a : Nat → Nat → Nat) (cI cZ : ClassId) (u : zSt) : va_W := [(a 7 99, .inr (7, fl7 a u)), (a 7 2, .inl (cI, 6, .inl (u.2 2))), (a 7 3, .inl (cI, 6, .inl (u.2 3))), (a 7 4, .inl (cI, 6, .inl (u.2 4))), (a 7 5, .inl (cI, 6, .inl (u.2 5))), (a 7 7, .inl (cI, 6, .inl (u.2 7))), (a 7 8, .inl (cI, 6, .inl (u.2 8))), (a 7 12, .inl (cI, 12, .inl (u.2 12))), (a 7 13, .inl (cI, 12, .inl (u.2 13))), (a 7 14, .inl (cI, 12, .inl (u.2 14))), (a 7 15, .inl (cI, 12, .inl (u.2 15))), (a 7 16, .inl (cI, 12, .inl (u.2 16))), (a 7 18, .inl (cI, 60, .inl (u.2 18))), (a 7 21, .inl (cI, 100, .inl (u.2 21))), (a 7 22, .inl (cZ, 100, .inl (u.2 22))), (a 7 23, .inl (cI, 100, .inl (u.2 23))), (a 7 24, .inl (cI, 100, .inl (u.2 24))), (a 7 29, .inl (cZ, 60, .inl (u.2 29))), (a 7 30, .inl (cI, 10, .inl (u.2 30))), (a 7 31, .inl (cI, 6, .inl (u.2 31))), (a 7 32, .inl (cI, 6, .inl (u.2 32))), (a 7 33, .inl (cI, 6, .inl (u.2 33))), (a 7 35, .inl (cI, 10, .inl (u.2 35))), (a 7 36, .inl (cZ, 6, .inl (u.2 36))), (a 7 37, .inl (cI, 36, .inl (u.2 37))), (a 7 38, .inl (cI, 10, .inl (u.2 38))), (a 7 41, .inl (cI, 7168, .inl (u.2 41)))]
abbrev k0 (a : Nat → Nat → Nat) (cI cZ : ClassId) (u : zSt) : va_W := wl0 a cI cZ u
theorem ge0_0 (a : Nat → Nat → Nat) (cI cZ : ClassId) (u0 : zSt) : (k0 a cI cZ u0)[0]? = some (a 0 99, .inr (0, fl0 a u0)) := rfl
theorem pa0_0_3 (a : Nat → Nat → Nat) (cI cZ : ClassId) (u0 : zSt) : (k0 a cI cZ u0)[1]? = some (a 0 3, .inl (cI, 60, .inl (u0.2 3))) := rfl
theorem sa0_0_3 (a : Nat → Nat → Nat) (cI cZ : ClassId) (u0 : zSt) (f : Nat → Int32) : (k0 a cI cZ u0).set 1 (a 0 3, .inl (cI, 60, .inl f)) = k0 a cI cZ (zA u0 3 f) := rfl
theorem si0_0_0 (a : Nat → Nat → Nat) (cI cZ : ClassId) (u0 : zSt) (x : Int32) : (k0 a cI cZ u0).set 0 (a 0 99, .inr (0, (fl0 a u0).set 0 (.int x))) = k0 a cI cZ (zI u0 0 x) := rfl
theorem si0_0_1 (a : Nat → Nat → Nat) (cI cZ : ClassId) (u0 : zSt) (x : Int32) : (k0 a cI cZ u0).set 0 (a 0 99, .inr (0, (fl0 a u0).set 1 (.int x))) = k0 a cI cZ (zI u0 1 x) := rfl
theorem si0_0_2 (a : Nat → Nat → Nat) (cI cZ : ClassId) (u0 : zSt) (x : Int32) : (k0 a cI cZ u0).set 0 (a 0 99, .inr (0, (fl0 a u0).set 2 (.int x))) = k0 a cI cZ (zI u0 2 x) := rfl
theorem si0_0_4 (a : Nat → Nat → Nat) (cI cZ : ClassId) (u0 : zSt) (x : Int32) : (k0 a cI cZ u0).set 0 (a 0 99, .inr (0, (fl0 a u0).set 4 (.int x))) = k0 a cI cZ (zI u0 4 x) := rfl
abbrev k1 (a : Nat → Nat → Nat) (cI cZ : ClassId) (u : zSt) : va_W := wl1 a cI cZ u
theorem ge1_1 (a : Nat → Nat → Nat) (cI cZ : ClassId) (u1 : zSt) : (k1 a cI cZ u1)[0]? = some (a 1 99, .inr (1, fl1 a u1)) := rfl
theorem pa1_1_0 (a : Nat → Nat → Nat) (cI cZ : ClassId) (u1 : zSt) : (k1 a cI cZ u1)[1]? = some (a 1 0, .inl (cI, 6, .inl (u1.2 0))) := rfl
theorem sa1_1_0 (a : Nat → Nat → Nat) (cI cZ : ClassId) (u1 : zSt) (f : Nat → Int32) : (k1 a cI cZ u1).set 1 (a 1 0, .inl (cI, 6, .inl f)) = k1 a cI cZ (zA u1 0 f) := rfl
theorem pa1_1_1 (a : Nat → Nat → Nat) (cI cZ : ClassId) (u1 : zSt) : (k1 a cI cZ u1)[2]? = some (a 1 1, .inl (cI, 6, .inl (u1.2 1))) := rfl
theorem sa1_1_1 (a : Nat → Nat → Nat) (cI cZ : ClassId) (u1 : zSt) (f : Nat → Int32) : (k1 a cI cZ u1).set 2 (a 1 1, .inl (cI, 6, .inl f)) = k1 a cI cZ (zA u1 1 f) := rfl
theorem pa1_1_2 (a : Nat → Nat → Nat) (cI cZ : ClassId) (u1 : zSt) : (k1 a cI cZ u1)[3]? = some (a 1 2, .inl (cI, 6, .inl (u1.2 2))) := rfl
theorem sa1_1_2 (a : Nat → Nat → Nat) (cI cZ : ClassId) (u1 : zSt) (f : Nat → Int32) : (k1 a cI cZ u1).set 3 (a 1 2, .inl (cI, 6, .inl f)) = k1 a cI cZ (zA u1 2 f) := rfl
theorem pa1_1_3 (a : Nat → Nat → Nat) (cI cZ : ClassId) (u1 : zSt) : (k1 a cI cZ u1)[4]? = some (a 1 3, .inl (cI, 6, .inl (u1.2 3))) := rfl
theorem sa1_1_3 (a : Nat → Nat → Nat) (cI cZ : ClassId) (u1 : zSt) (f : Nat → Int32) : (k1 a cI cZ u1).set 4 (a 1 3, .inl (cI, 6, .inl f)) = k1 a cI cZ (zA u1 3 f) := rfl
theorem pa1_1_5 (a : Nat → Nat → Nat) (cI cZ : ClassId) (u1 : zSt) : (k1 a cI cZ u1)[5]? = some (a 1 5, .inl (cI, 6, .inl (u1.2 5))) := rfl
theorem sa1_1_5 (a : Nat → Nat → Nat) (cI cZ : ClassId) (u1 : zSt) (f : Nat → Int32) : (k1 a cI cZ u1).set 5 (a 1 5, .inl (cI, 6, .inl f)) = k1 a cI cZ (zA u1 5 f) := rfl
theorem pa1_1_9 (a : Nat → Nat → Nat) (cI cZ : ClassId) (u1 : zSt) : (k1 a cI cZ u1)[6]? = some (a 1 9, .inl (cI, 6, .inl (u1.2 9))) := rfl
theorem sa1_1_9 (a : Nat → Nat → Nat) (cI cZ : ClassId) (u1 : zSt) (f : Nat → Int32) : (k1 a cI cZ u1).set 6 (a 1 9, .inl (cI, 6, .inl f)) = k1 a cI cZ (zA u1 9 f) := rfl
theorem pa1_1_12 (a : Nat → Nat → Nat) (cI cZ : ClassId) (u1 : zSt) : (k1 a cI cZ u1)[7]? = some (a 1 12, .inl (cI, 7, .inl (u1.2 12))) := rfl
theorem sa1_1_12 (a : Nat → Nat → Nat) (cI cZ : ClassId) (u1 : zSt) (f : Nat → Int32) : (k1 a cI cZ u1).set 7 (a 1 12, .inl (cI, 7, .inl f)) = k1 a cI cZ (zA u1 12 f) := rfl
theorem pa1_1_13 (a : Nat → Nat → Nat) (cI cZ : ClassId) (u1 : zSt) : (k1 a cI cZ u1)[8]? = some (a 1 13, .inl (cI, 7, .inl (u1.2 13))) := rfl
theorem sa1_1_13 (a : Nat → Nat → Nat) (cI cZ : ClassId) (u1 : zSt) (f : Nat → Int32) : (k1 a cI cZ u1).set 8 (a 1 13, .inl (cI, 7, .inl f)) = k1 a cI cZ (zA u1 13 f) := rfl
theorem pa1_1_14 (a : Nat → Nat → Nat) (cI cZ : ClassId) (u1 : zSt) : (k1 a cI cZ u1)[9]? = some (a 1 14, .inl (cI, 7, .inl (u1.2 14))) := rfl
theorem sa1_1_14 (a : Nat → Nat → Nat) (cI cZ : ClassId) (u1 : zSt) (f : Nat → Int32) : (k1 a cI cZ u1).set 9 (a 1 14, .inl (cI, 7, .inl f)) = k1 a cI cZ (zA u1 14 f) := rfl
theorem pa1_1_15 (a : Nat → Nat → Nat) (cI cZ : ClassId) (u1 : zSt) : (k1 a cI cZ u1)[10]? = some (a 1 15, .inl (cI, 7, .inl (u1.2 15))) := rfl
theorem sa1_1_15 (a : Nat → Nat → Nat) (cI cZ : ClassId) (u1 : zSt) (f : Nat → Int32) : (k1 a cI cZ u1).set 10 (a 1 15, .inl (cI, 7, .inl f)) = k1 a cI cZ (zA u1 15 f) := rfl
theorem si1_1_4 (a : Nat → Nat → Nat) (cI cZ : ClassId) (u1 : zSt) (x : Int32) : (k1 a cI cZ u1).set 0 (a 1 99, .inr (1, (fl1 a u1).set 4 (.int x))) = k1 a cI cZ (zI u1 4 x) := rfl
theorem si1_1_6 (a : Nat → Nat → Nat) (cI cZ : ClassId) (u1 : zSt) (x : Int32) : (k1 a cI cZ u1).set 0 (a 1 99, .inr (1, (fl1 a u1).set 6 (.int x))) = k1 a cI cZ (zI u1 6 x) := rfl
theorem si1_1_7 (a : Nat → Nat → Nat) (cI cZ : ClassId) (u1 : zSt) (x : Int32) : (k1 a cI cZ u1).set 0 (a 1 99, .inr (1, (fl1 a u1).set 7 (.int x))) = k1 a cI cZ (zI u1 7 x) := rfl
theorem si1_1_8 (a : Nat → Nat → Nat) (cI cZ : ClassId) (u1 : zSt) (x : Int32) : (k1 a cI cZ u1).set 0 (a 1 99, .inr (1, (fl1 a u1).set 8 (.int x))) = k1 a cI cZ (zI u1 8 x) := rfl
theorem si1_1_10 (a : Nat → Nat → Nat) (cI cZ : ClassId) (u1 : zSt) (x : Int32) : (k1 a cI cZ u1).set 0 (a 1 99, .inr (1, (fl1 a u1).set 10 (.int x))) = k1 a cI cZ (zI u1 10 x) := rfl
theorem si1_1_11 (a : Nat → Nat → Nat) (cI cZ : ClassId) (u1 : zSt) (x : Int32) : (k1 a cI cZ u1).set 0 (a 1 99, .inr (1, (fl1 a u1).set 11 (.int x))) = k1 a cI cZ (zI u1 11 x) := rfl
abbrev k2 (a : Nat → Nat → Nat) (cI cZ : ClassId) (u : zSt) : va_W := wl2 a cI cZ u
theorem ge2_2 (a : Nat → Nat → Nat) (cI cZ : ClassId) (u2 : zSt) : (k2 a cI cZ u2)[0]? = some (a 2 99, .inr (2, fl2 a u2)) := rfl
theorem pa2_2_0 (a : Nat → Nat → Nat) (cI cZ : ClassId) (u2 : zSt) : (k2 a cI cZ u2)[1]? = some (a 2 0, .inl (cI, 10, .inl (u2.2 0))) := rfl
theorem sa2_2_0 (a : Nat → Nat → Nat) (cI cZ : ClassId) (u2 : zSt) (f : Nat → Int32) : (k2 a cI cZ u2).set 1 (a 2 0, .inl (cI, 10, .inl f)) = k2 a cI cZ (zA u2 0 f) := rfl
theorem pa2_2_2 (a : Nat → Nat → Nat) (cI cZ : ClassId) (u2 : zSt) : (k2 a cI cZ u2)[2]? = some (a 2 2, .inl (cI, 6, .inl (u2.2 2))) := rfl
theorem sa2_2_2 (a : Nat → Nat → Nat) (cI cZ : ClassId) (u2 : zSt) (f : Nat → Int32) : (k2 a cI cZ u2).set 2 (a 2 2, .inl (cI, 6, .inl f)) = k2 a cI cZ (zA u2 2 f) := rfl
theorem pa2_2_3 (a : Nat → Nat → Nat) (cI cZ : ClassId) (u2 : zSt) : (k2 a cI cZ u2)[3]? = some (a 2 3, .inl (cI, 6, .inl (u2.2 3))) := rfl
theorem sa2_2_3 (a : Nat → Nat → Nat) (cI cZ : ClassId) (u2 : zSt) (f : Nat → Int32) : (k2 a cI cZ u2).set 3 (a 2 3, .inl (cI, 6, .inl f)) = k2 a cI cZ (zA u2 3 f) := rfl
theorem pa2_2_4 (a : Nat → Nat → Nat) (cI cZ : ClassId) (u2 : zSt) : (k2 a cI cZ u2)[4]? = some (a 2 4, .inl (cI, 6, .inl (u2.2 4))) := rfl
theorem sa2_2_4 (a : Nat → Nat → Nat) (cI cZ : ClassId) (u2 : zSt) (f : Nat → Int32) : (k2 a cI cZ u2).set 4 (a 2 4, .inl (cI, 6, .inl f)) = k2 a cI cZ (zA u2 4 f) := rfl
theorem pa2_2_6 (a : Nat → Nat → Nat) (cI cZ : ClassId) (u2 : zSt) : (k2 a cI cZ u2)[5]? = some (a 2 6, .inl (cI, 10, .inl (u2.2 6))) := rfl
theorem sa2_2_6 (a : Nat → Nat → Nat) (cI cZ : ClassId) (u2 : zSt) (f : Nat → Int32) : (k2 a cI cZ u2).set 5 (a 2 6, .inl (cI, 10, .inl f)) = k2 a cI cZ (zA u2 6 f) := rfl
theorem si2_2_1 (a : Nat → Nat → Nat) (cI cZ : ClassId) (u2 : zSt) (x : Int32) : (k2 a cI cZ u2).set 0 (a 2 99, .inr (2, (fl2 a u2).set 1 (.int x))) = k2 a cI cZ (zI u2 1 x) := rfl
theorem si2_2_5 (a : Nat → Nat → Nat) (cI cZ : ClassId) (u2 : zSt) (x : Int32) : (k2 a cI cZ u2).set 0 (a 2 99, .inr (2, (fl2 a u2).set 5 (.int x))) = k2 a cI cZ (zI u2 5 x) := rfl
abbrev k3 (a : Nat → Nat → Nat) (cI cZ : ClassId) (u : zSt) : va_W := wl3 a cI cZ u
theorem ge3_3 (a : Nat → Nat → Nat) (cI cZ : ClassId) (u3 : zSt) : (k3 a cI cZ u3)[0]? = some (a 3 99, .inr (3, fl3 a u3)) := rfl
theorem pa3_3_0 (a : Nat → Nat → Nat) (cI cZ : ClassId) (u3 : zSt) : (k3 a cI cZ u3)[1]? = some (a 3 0, .inl (cI, 12, .inl (u3.2 0))) := rfl
theorem sa3_3_0 (a : Nat → Nat → Nat) (cI cZ : ClassId) (u3 : zSt) (f : Nat → Int32) : (k3 a cI cZ u3).set 1 (a 3 0, .inl (cI, 12, .inl f)) = k3 a cI cZ (zA u3 0 f) := rfl
theorem pa3_3_1 (a : Nat → Nat → Nat) (cI cZ : ClassId) (u3 : zSt) : (k3 a cI cZ u3)[2]? = some (a 3 1, .inl (cI, 12, .inl (u3.2 1))) := rfl
theorem sa3_3_1 (a : Nat → Nat → Nat) (cI cZ : ClassId) (u3 : zSt) (f : Nat → Int32) : (k3 a cI cZ u3).set 2 (a 3 1, .inl (cI, 12, .inl f)) = k3 a cI cZ (zA u3 1 f) := rfl
theorem pa3_3_2 (a : Nat → Nat → Nat) (cI cZ : ClassId) (u3 : zSt) : (k3 a cI cZ u3)[3]? = some (a 3 2, .inl (cI, 12, .inl (u3.2 2))) := rfl
theorem sa3_3_2 (a : Nat → Nat → Nat) (cI cZ : ClassId) (u3 : zSt) (f : Nat → Int32) : (k3 a cI cZ u3).set 3 (a 3 2, .inl (cI, 12, .inl f)) = k3 a cI cZ (zA u3 2 f) := rfl
theorem pa3_3_3 (a : Nat → Nat → Nat) (cI cZ : ClassId) (u3 : zSt) : (k3 a cI cZ u3)[4]? = some (a 3 3, .inl (cI, 12, .inl (u3.2 3))) := rfl
theorem sa3_3_3 (a : Nat → Nat → Nat) (cI cZ : ClassId) (u3 : zSt) (f : Nat → Int32) : (k3 a cI cZ u3).set 4 (a 3 3, .inl (cI, 12, .inl f)) = k3 a cI cZ (zA u3 3 f) := rfl
theorem pa3_3_4 (a : Nat → Nat → Nat) (cI cZ : ClassId) (u3 : zSt) : (k3 a cI cZ u3)[5]? = some (a 3 4, .inl (cI, 12, .inl (u3.2 4))) := rfl
theorem sa3_3_4 (a : Nat → Nat → Nat) (cI cZ : ClassId) (u3 : zSt) (f : Nat → Int32) : (k3 a cI cZ u3).set 5 (a 3 4, .inl (cI, 12, .inl f)) = k3 a cI cZ (zA u3 4 f) := rfl
theorem pa3_3_6 (a : Nat → Nat → Nat) (cI cZ : ClassId) (u3 : zSt) : (k3 a cI cZ u3)[6]? = some (a 3 6, .inl (cI, 60, .inl (u3.2 6))) := rfl
theorem sa3_3_6 (a : Nat → Nat → Nat) (cI cZ : ClassId) (u3 : zSt) (f : Nat → Int32) : (k3 a cI cZ u3).set 6 (a 3 6, .inl (cI, 60, .inl f)) = k3 a cI cZ (zA u3 6 f) := rfl
theorem si3_3_5 (a : Nat → Nat → Nat) (cI cZ : ClassId) (u3 : zSt) (x : Int32) : (k3 a cI cZ u3).set 0 (a 3 99, .inr (3, (fl3 a u3).set 5 (.int x))) = k3 a cI cZ (zI u3 5 x) := rfl
theorem si3_3_7 (a : Nat → Nat → Nat) (cI cZ : ClassId) (u3 : zSt) (x : Int32) : (k3 a cI cZ u3).set 0 (a 3 99, .inr (3, (fl3 a u3).set 7 (.int x))) = k3 a cI cZ (zI u3 7 x) := rfl
theorem si3_3_8 (a : Nat → Nat → Nat) (cI cZ : ClassId) (u3 : zSt) (x : Int32) : (k3 a cI cZ u3).set 0 (a 3 99, .inr (3, (fl3 a u3).set 8 (.int x))) = k3 a cI cZ (zI u3 8 x) := rfl
abbrev k4 (a : Nat → Nat → Nat) (cI cZ : ClassId) (u : zSt) : va_W := wl4 a cI cZ u
theorem ge4_4 (a : Nat → Nat → Nat) (cI cZ : ClassId) (u4 : zSt) : (k4 a cI cZ u4)[0]? = some (a 4 99, .inr (4, fl4 a u4)) := rfl
theorem pa4_4_0 (a : Nat → Nat → Nat) (cI cZ : ClassId) (u4 : zSt) : (k4 a cI cZ u4)[1]? = some (a 4 0, .inl (cI, 42, .inl (u4.2 0))) := rfl
theorem sa4_4_0 (a : Nat → Nat → Nat) (cI cZ : ClassId) (u4 : zSt) (f : Nat → Int32) : (k4 a cI cZ u4).set 1 (a 4 0, .inl (cI, 42, .inl f)) = k4 a cI cZ (zA u4 0 f) := rfl
theorem pa4_4_3 (a : Nat → Nat → Nat) (cI cZ : ClassId) (u4 : zSt) : (k4 a cI cZ u4)[2]? = some (a 4 3, .inl (cI, 6, .inl (u4.2 3))) := rfl
theorem sa4_4_3 (a : Nat → Nat → Nat) (cI cZ : ClassId) (u4 : zSt) (f : Nat → Int32) : (k4 a cI cZ u4).set 2 (a 4 3, .inl (cI, 6, .inl f)) = k4 a cI cZ (zA u4 3 f) := rfl
theorem pa4_4_4 (a : Nat → Nat → Nat) (cI cZ : ClassId) (u4 : zSt) : (k4 a cI cZ u4)[3]? = some (a 4 4, .inl (cI, 6, .inl (u4.2 4))) := rfl
theorem sa4_4_4 (a : Nat → Nat → Nat) (cI cZ : ClassId) (u4 : zSt) (f : Nat → Int32) : (k4 a cI cZ u4).set 3 (a 4 4, .inl (cI, 6, .inl f)) = k4 a cI cZ (zA u4 4 f) := rfl
theorem pa4_4_5 (a : Nat → Nat → Nat) (cI cZ : ClassId) (u4 : zSt) : (k4 a cI cZ u4)[4]? = some (a 4 5, .inl (cI, 6, .inl (u4.2 5))) := rfl
theorem sa4_4_5 (a : Nat → Nat → Nat) (cI cZ : ClassId) (u4 : zSt) (f : Nat → Int32) : (k4 a cI cZ u4).set 4 (a 4 5, .inl (cI, 6, .inl f)) = k4 a cI cZ (zA u4 5 f) := rfl
theorem pa4_4_6 (a : Nat → Nat → Nat) (cI cZ : ClassId) (u4 : zSt) : (k4 a cI cZ u4)[5]? = some (a 4 6, .inl (cI, 1944, .inl (u4.2 6))) := rfl
theorem sa4_4_6 (a : Nat → Nat → Nat) (cI cZ : ClassId) (u4 : zSt) (f : Nat → Int32) : (k4 a cI cZ u4).set 5 (a 4 6, .inl (cI, 1944, .inl f)) = k4 a cI cZ (zA u4 6 f) := rfl
theorem si4_4_1 (a : Nat → Nat → Nat) (cI cZ : ClassId) (u4 : zSt) (x : Int32) : (k4 a cI cZ u4).set 0 (a 4 99, .inr (4, (fl4 a u4).set 1 (.int x))) = k4 a cI cZ (zI u4 1 x) := rfl
theorem si4_4_2 (a : Nat → Nat → Nat) (cI cZ : ClassId) (u4 : zSt) (x : Int32) : (k4 a cI cZ u4).set 0 (a 4 99, .inr (4, (fl4 a u4).set 2 (.int x))) = k4 a cI cZ (zI u4 2 x) := rfl
abbrev k5 (a : Nat → Nat → Nat) (cI cZ : ClassId) (u : zSt) : va_W := wl5 a cI cZ u
theorem ge5_5 (a : Nat → Nat → Nat) (cI cZ : ClassId) (u5 : zSt) : (k5 a cI cZ u5)[0]? = some (a 5 99, .inr (5, fl5 a u5)) := rfl
theorem pa5_5_0 (a : Nat → Nat → Nat) (cI cZ : ClassId) (u5 : zSt) : (k5 a cI cZ u5)[1]? = some (a 5 0, .inl (cI, 100, .inl (u5.2 0))) := rfl
theorem sa5_5_0 (a : Nat → Nat → Nat) (cI cZ : ClassId) (u5 : zSt) (f : Nat → Int32) : (k5 a cI cZ u5).set 1 (a 5 0, .inl (cI, 100, .inl f)) = k5 a cI cZ (zA u5 0 f) := rfl
theorem pa5_5_1 (a : Nat → Nat → Nat) (cI cZ : ClassId) (u5 : zSt) : (k5 a cI cZ u5)[2]? = some (a 5 1, .inl (cZ, 100, .inl (u5.2 1))) := rfl
theorem sa5_5_1 (a : Nat → Nat → Nat) (cI cZ : ClassId) (u5 : zSt) (f : Nat → Int32) : (k5 a cI cZ u5).set 2 (a 5 1, .inl (cZ, 100, .inl f)) = k5 a cI cZ (zA u5 1 f) := rfl
theorem pa5_5_2 (a : Nat → Nat → Nat) (cI cZ : ClassId) (u5 : zSt) : (k5 a cI cZ u5)[3]? = some (a 5 2, .inl (cI, 100, .inl (u5.2 2))) := rfl
theorem sa5_5_2 (a : Nat → Nat → Nat) (cI cZ : ClassId) (u5 : zSt) (f : Nat → Int32) : (k5 a cI cZ u5).set 3 (a 5 2, .inl (cI, 100, .inl f)) = k5 a cI cZ (zA u5 2 f) := rfl
theorem pa5_5_3 (a : Nat → Nat → Nat) (cI cZ : ClassId) (u5 : zSt) : (k5 a cI cZ u5)[4]? = some (a 5 3, .inl (cI, 100, .inl (u5.2 3))) := rfl
theorem sa5_5_3 (a : Nat → Nat → Nat) (cI cZ : ClassId) (u5 : zSt) (f : Nat → Int32) : (k5 a cI cZ u5).set 4 (a 5 3, .inl (cI, 100, .inl f)) = k5 a cI cZ (zA u5 3 f) := rfl
theorem si5_5_4 (a : Nat → Nat → Nat) (cI cZ : ClassId) (u5 : zSt) (x : Int32) : (k5 a cI cZ u5).set 0 (a 5 99, .inr (5, (fl5 a u5).set 4 (.int x))) = k5 a cI cZ (zI u5 4 x) := rfl
theorem si5_5_5 (a : Nat → Nat → Nat) (cI cZ : ClassId) (u5 : zSt) (x : Int32) : (k5 a cI cZ u5).set 0 (a 5 99, .inr (5, (fl5 a u5).set 5 (.int x))) = k5 a cI cZ (zI u5 5 x) := rfl
abbrev k7 (a : Nat → Nat → Nat) (cI cZ : ClassId) (u : zSt) : va_W := wl7 a cI cZ u
theorem ge7_7 (a : Nat → Nat → Nat) (cI cZ : ClassId) (u7 : zSt) : (k7 a cI cZ u7)[0]? = some (a 7 99, .inr (7, fl7 a u7)) := rfl
theorem pa7_7_2 (a : Nat → Nat → Nat) (cI cZ : ClassId) (u7 : zSt) : (k7 a cI cZ u7)[1]? = some (a 7 2, .inl (cI, 6, .inl (u7.2 2))) := rfl
theorem sa7_7_2 (a : Nat → Nat → Nat) (cI cZ : ClassId) (u7 : zSt) (f : Nat → Int32) : (k7 a cI cZ u7).set 1 (a 7 2, .inl (cI, 6, .inl f)) = k7 a cI cZ (zA u7 2 f) := rfl
theorem pa7_7_3 (a : Nat → Nat → Nat) (cI cZ : ClassId) (u7 : zSt) : (k7 a cI cZ u7)[2]? = some (a 7 3, .inl (cI, 6, .inl (u7.2 3))) := rfl
theorem sa7_7_3 (a : Nat → Nat → Nat) (cI cZ : ClassId) (u7 : zSt) (f : Nat → Int32) : (k7 a cI cZ u7).set 2 (a 7 3, .inl (cI, 6, .inl f)) = k7 a cI cZ (zA u7 3 f) := rfl
theorem pa7_7_4 (a : Nat → Nat → Nat) (cI cZ : ClassId) (u7 : zSt) : (k7 a cI cZ u7)[3]? = some (a 7 4, .inl (cI, 6, .inl (u7.2 4))) := rfl
theorem sa7_7_4 (a : Nat → Nat → Nat) (cI cZ : ClassId) (u7 : zSt) (f : Nat → Int32) : (k7 a cI cZ u7).set 3 (a 7 4, .inl (cI, 6, .inl f)) = k7 a cI cZ (zA u7 4 f) := rfl
theorem pa7_7_5 (a : Nat → Nat → Nat) (cI cZ : ClassId) (u7 : zSt) : (k7 a cI cZ u7)[4]? = some (a 7 5, .inl (cI, 6, .inl (u7.2 5))) := rfl
theorem sa7_7_5 (a : Nat → Nat → Nat) (cI cZ : ClassId) (u7 : zSt) (f : Nat → Int32) : (k7 a cI cZ u7).set 4 (a 7 5, .inl (cI, 6, .inl f)) = k7 a cI cZ (zA u7 5 f) := rfl
theorem pa7_7_7 (a : Nat → Nat → Nat) (cI cZ : ClassId) (u7 : zSt) : (k7 a cI cZ u7)[5]? = some (a 7 7, .inl (cI, 6, .inl (u7.2 7))) := rfl
theorem sa7_7_7 (a : Nat → Nat → Nat) (cI cZ : ClassId) (u7 : zSt) (f : Nat → Int32) : (k7 a cI cZ u7).set 5 (a 7 7, .inl (cI, 6, .inl f)) = k7 a cI cZ (zA u7 7 f) := rfl
theorem pa7_7_8 (a : Nat → Nat → Nat) (cI cZ : ClassId) (u7 : zSt) : (k7 a cI cZ u7)[6]? = some (a 7 8, .inl (cI, 6, .inl (u7.2 8))) := rfl
theorem sa7_7_8 (a : Nat → Nat → Nat) (cI cZ : ClassId) (u7 : zSt) (f : Nat → Int32) : (k7 a cI cZ u7).set 6 (a 7 8, .inl (cI, 6, .inl f)) = k7 a cI cZ (zA u7 8 f) := rfl
theorem pa7_7_12 (a : Nat → Nat → Nat) (cI cZ : ClassId) (u7 : zSt) : (k7 a cI cZ u7)[7]? = some (a 7 12, .inl (cI, 12, .inl (u7.2 12))) := rfl
theorem sa7_7_12 (a : Nat → Nat → Nat) (cI cZ : ClassId) (u7 : zSt) (f : Nat → Int32) : (k7 a cI cZ u7).set 7 (a 7 12, .inl (cI, 12, .inl f)) = k7 a cI cZ (zA u7 12 f) := rfl
theorem pa7_7_13 (a : Nat → Nat → Nat) (cI cZ : ClassId) (u7 : zSt) : (k7 a cI cZ u7)[8]? = some (a 7 13, .inl (cI, 12, .inl (u7.2 13))) := rfl
theorem sa7_7_13 (a : Nat → Nat → Nat) (cI cZ : ClassId) (u7 : zSt) (f : Nat → Int32) : (k7 a cI cZ u7).set 8 (a 7 13, .inl (cI, 12, .inl f)) = k7 a cI cZ (zA u7 13 f) := rfl
theorem pa7_7_14 (a : Nat → Nat → Nat) (cI cZ : ClassId) (u7 : zSt) : (k7 a cI cZ u7)[9]? = some (a 7 14, .inl (cI, 12, .inl (u7.2 14))) := rfl
theorem sa7_7_14 (a : Nat → Nat → Nat) (cI cZ : ClassId) (u7 : zSt) (f : Nat → Int32) : (k7 a cI cZ u7).set 9 (a 7 14, .inl (cI, 12, .inl f)) = k7 a cI cZ (zA u7 14 f) := rfl
theorem pa7_7_15 (a : Nat → Nat → Nat) (cI cZ : ClassId) (u7 : zSt) : (k7 a cI cZ u7)[10]? = some (a 7 15, .inl (cI, 12, .inl (u7.2 15))) := rfl
theorem sa7_7_15 (a : Nat → Nat → Nat) (cI cZ : ClassId) (u7 : zSt) (f : Nat → Int32) : (k7 a cI cZ u7).set 10 (a 7 15, .inl (cI, 12, .inl f)) = k7 a cI cZ (zA u7 15 f) := rfl
theorem pa7_7_16 (a : Nat → Nat → Nat) (cI cZ : ClassId) (u7 : zSt) : (k7 a cI cZ u7)[11]? = some (a 7 16, .inl (cI, 12, .inl (u7.2 16))) := rfl
theorem sa7_7_16 (a : Nat → Nat → Nat) (cI cZ : ClassId) (u7 : zSt) (f : Nat → Int32) : (k7 a cI cZ u7).set 11 (a 7 16, .inl (cI, 12, .inl f)) = k7 a cI cZ (zA u7 16 f) := rfl
theorem pa7_7_18 (a : Nat → Nat → Nat) (cI cZ : ClassId) (u7 : zSt) : (k7 a cI cZ u7)[12]? = some (a 7 18, .inl (cI, 60, .inl (u7.2 18))) := rfl
theorem sa7_7_18 (a : Nat → Nat → Nat) (cI cZ : ClassId) (u7 : zSt) (f : Nat → Int32) : (k7 a cI cZ u7).set 12 (a 7 18, .inl (cI, 60, .inl f)) = k7 a cI cZ (zA u7 18 f) := rfl
theorem pa7_7_21 (a : Nat → Nat → Nat) (cI cZ : ClassId) (u7 : zSt) : (k7 a cI cZ u7)[13]? = some (a 7 21, .inl (cI, 100, .inl (u7.2 21))) := rfl
theorem sa7_7_21 (a : Nat → Nat → Nat) (cI cZ : ClassId) (u7 : zSt) (f : Nat → Int32) : (k7 a cI cZ u7).set 13 (a 7 21, .inl (cI, 100, .inl f)) = k7 a cI cZ (zA u7 21 f) := rfl
theorem pa7_7_22 (a : Nat → Nat → Nat) (cI cZ : ClassId) (u7 : zSt) : (k7 a cI cZ u7)[14]? = some (a 7 22, .inl (cZ, 100, .inl (u7.2 22))) := rfl
theorem sa7_7_22 (a : Nat → Nat → Nat) (cI cZ : ClassId) (u7 : zSt) (f : Nat → Int32) : (k7 a cI cZ u7).set 14 (a 7 22, .inl (cZ, 100, .inl f)) = k7 a cI cZ (zA u7 22 f) := rfl
theorem pa7_7_23 (a : Nat → Nat → Nat) (cI cZ : ClassId) (u7 : zSt) : (k7 a cI cZ u7)[15]? = some (a 7 23, .inl (cI, 100, .inl (u7.2 23))) := rfl
theorem sa7_7_23 (a : Nat → Nat → Nat) (cI cZ : ClassId) (u7 : zSt) (f : Nat → Int32) : (k7 a cI cZ u7).set 15 (a 7 23, .inl (cI, 100, .inl f)) = k7 a cI cZ (zA u7 23 f) := rfl
theorem pa7_7_24 (a : Nat → Nat → Nat) (cI cZ : ClassId) (u7 : zSt) : (k7 a cI cZ u7)[16]? = some (a 7 24, .inl (cI, 100, .inl (u7.2 24))) := rfl
theorem sa7_7_24 (a : Nat → Nat → Nat) (cI cZ : ClassId) (u7 : zSt) (f : Nat → Int32) : (k7 a cI cZ u7).set 16 (a 7 24, .inl (cI, 100, .inl f)) = k7 a cI cZ (zA u7 24 f) := rfl
theorem pa7_7_29 (a : Nat → Nat → Nat) (cI cZ : ClassId) (u7 : zSt) : (k7 a cI cZ u7)[17]? = some (a 7 29, .inl (cZ, 60, .inl (u7.2 29))) := rfl
theorem sa7_7_29 (a : Nat → Nat → Nat) (cI cZ : ClassId) (u7 : zSt) (f : Nat → Int32) : (k7 a cI cZ u7).set 17 (a 7 29, .inl (cZ, 60, .inl f)) = k7 a cI cZ (zA u7 29 f) := rfl
theorem pa7_7_30 (a : Nat → Nat → Nat) (cI cZ : ClassId) (u7 : zSt) : (k7 a cI cZ u7)[18]? = some (a 7 30, .inl (cI, 10, .inl (u7.2 30))) := rfl
theorem sa7_7_30 (a : Nat → Nat → Nat) (cI cZ : ClassId) (u7 : zSt) (f : Nat → Int32) : (k7 a cI cZ u7).set 18 (a 7 30, .inl (cI, 10, .inl f)) = k7 a cI cZ (zA u7 30 f) := rfl
theorem pa7_7_31 (a : Nat → Nat → Nat) (cI cZ : ClassId) (u7 : zSt) : (k7 a cI cZ u7)[19]? = some (a 7 31, .inl (cI, 6, .inl (u7.2 31))) := rfl
theorem sa7_7_31 (a : Nat → Nat → Nat) (cI cZ : ClassId) (u7 : zSt) (f : Nat → Int32) : (k7 a cI cZ u7).set 19 (a 7 31, .inl (cI, 6, .inl f)) = k7 a cI cZ (zA u7 31 f) := rfl
theorem pa7_7_32 (a : Nat → Nat → Nat) (cI cZ : ClassId) (u7 : zSt) : (k7 a cI cZ u7)[20]? = some (a 7 32, .inl (cI, 6, .inl (u7.2 32))) := rfl
theorem sa7_7_32 (a : Nat → Nat → Nat) (cI cZ : ClassId) (u7 : zSt) (f : Nat → Int32) : (k7 a cI cZ u7).set 20 (a 7 32, .inl (cI, 6, .inl f)) = k7 a cI cZ (zA u7 32 f) := rfl
theorem pa7_7_33 (a : Nat → Nat → Nat) (cI cZ : ClassId) (u7 : zSt) : (k7 a cI cZ u7)[21]? = some (a 7 33, .inl (cI, 6, .inl (u7.2 33))) := rfl
theorem sa7_7_33 (a : Nat → Nat → Nat) (cI cZ : ClassId) (u7 : zSt) (f : Nat → Int32) : (k7 a cI cZ u7).set 21 (a 7 33, .inl (cI, 6, .inl f)) = k7 a cI cZ (zA u7 33 f) := rfl
theorem pa7_7_35 (a : Nat → Nat → Nat) (cI cZ : ClassId) (u7 : zSt) : (k7 a cI cZ u7)[22]? = some (a 7 35, .inl (cI, 10, .inl (u7.2 35))) := rfl
theorem sa7_7_35 (a : Nat → Nat → Nat) (cI cZ : ClassId) (u7 : zSt) (f : Nat → Int32) : (k7 a cI cZ u7).set 22 (a 7 35, .inl (cI, 10, .inl f)) = k7 a cI cZ (zA u7 35 f) := rfl
theorem pa7_7_36 (a : Nat → Nat → Nat) (cI cZ : ClassId) (u7 : zSt) : (k7 a cI cZ u7)[23]? = some (a 7 36, .inl (cZ, 6, .inl (u7.2 36))) := rfl
theorem sa7_7_36 (a : Nat → Nat → Nat) (cI cZ : ClassId) (u7 : zSt) (f : Nat → Int32) : (k7 a cI cZ u7).set 23 (a 7 36, .inl (cZ, 6, .inl f)) = k7 a cI cZ (zA u7 36 f) := rfl
theorem pa7_7_37 (a : Nat → Nat → Nat) (cI cZ : ClassId) (u7 : zSt) : (k7 a cI cZ u7)[24]? = some (a 7 37, .inl (cI, 36, .inl (u7.2 37))) := rfl
theorem sa7_7_37 (a : Nat → Nat → Nat) (cI cZ : ClassId) (u7 : zSt) (f : Nat → Int32) : (k7 a cI cZ u7).set 24 (a 7 37, .inl (cI, 36, .inl f)) = k7 a cI cZ (zA u7 37 f) := rfl
theorem pa7_7_38 (a : Nat → Nat → Nat) (cI cZ : ClassId) (u7 : zSt) : (k7 a cI cZ u7)[25]? = some (a 7 38, .inl (cI, 10, .inl (u7.2 38))) := rfl
theorem sa7_7_38 (a : Nat → Nat → Nat) (cI cZ : ClassId) (u7 : zSt) (f : Nat → Int32) : (k7 a cI cZ u7).set 25 (a 7 38, .inl (cI, 10, .inl f)) = k7 a cI cZ (zA u7 38 f) := rfl
theorem pa7_7_41 (a : Nat → Nat → Nat) (cI cZ : ClassId) (u7 : zSt) : (k7 a cI cZ u7)[26]? = some (a 7 41, .inl (cI, 7168, .inl (u7.2 41))) := rfl
theorem sa7_7_41 (a : Nat → Nat → Nat) (cI cZ : ClassId) (u7 : zSt) (f : Nat → Int32) : (k7 a cI cZ u7).set 26 (a 7 41, .inl (cI, 7168, .inl f)) = k7 a cI cZ (zA u7 41 f) := rfl
theorem si7_7_0 (a : Nat → Nat → Nat) (cI cZ : ClassId) (u7 : zSt) (x : Int32) : (k7 a cI cZ u7).set 0 (a 7 99, .inr (7, (fl7 a u7).set 0 (.int x))) = k7 a cI cZ (zI u7 0 x) := rfl
theorem si7_7_1 (a : Nat → Nat → Nat) (cI cZ : ClassId) (u7 : zSt) (x : Int32) : (k7 a cI cZ u7).set 0 (a 7 99, .inr (7, (fl7 a u7).set 1 (.int x))) = k7 a cI cZ (zI u7 1 x) := rfl
theorem si7_7_6 (a : Nat → Nat → Nat) (cI cZ : ClassId) (u7 : zSt) (x : Int32) : (k7 a cI cZ u7).set 0 (a 7 99, .inr (7, (fl7 a u7).set 6 (.int x))) = k7 a cI cZ (zI u7 6 x) := rfl
theorem si7_7_9 (a : Nat → Nat → Nat) (cI cZ : ClassId) (u7 : zSt) (x : Int32) : (k7 a cI cZ u7).set 0 (a 7 99, .inr (7, (fl7 a u7).set 9 (.int x))) = k7 a cI cZ (zI u7 9 x) := rfl
theorem si7_7_10 (a : Nat → Nat → Nat) (cI cZ : ClassId) (u7 : zSt) (x : Int32) : (k7 a cI cZ u7).set 0 (a 7 99, .inr (7, (fl7 a u7).set 10 (.int x))) = k7 a cI cZ (zI u7 10 x) := rfl
theorem si7_7_11 (a : Nat → Nat → Nat) (cI cZ : ClassId) (u7 : zSt) (x : Int32) : (k7 a cI cZ u7).set 0 (a 7 99, .inr (7, (fl7 a u7).set 11 (.int x))) = k7 a cI cZ (zI u7 11 x) := rfl
theorem si7_7_17 (a : Nat → Nat → Nat) (cI cZ : ClassId) (u7 : zSt) (x : Int32) : (k7 a cI cZ u7).set 0 (a 7 99, .inr (7, (fl7 a u7).set 17 (.int x))) = k7 a cI cZ (zI u7 17 x) := rfl
theorem si7_7_19 (a : Nat → Nat → Nat) (cI cZ : ClassId) (u7 : zSt) (x : Int32) : (k7 a cI cZ u7).set 0 (a 7 99, .inr (7, (fl7 a u7).set 19 (.int x))) = k7 a cI cZ (zI u7 19 x) := rfl
theorem si7_7_20 (a : Nat → Nat → Nat) (cI cZ : ClassId) (u7 : zSt) (x : Int32) : (k7 a cI cZ u7).set 0 (a 7 99, .inr (7, (fl7 a u7).set 20 (.int x))) = k7 a cI cZ (zI u7 20 x) := rfl
theorem si7_7_25 (a : Nat → Nat → Nat) (cI cZ : ClassId) (u7 : zSt) (x : Int32) : (k7 a cI cZ u7).set 0 (a 7 99, .inr (7, (fl7 a u7).set 25 (.int x))) = k7 a cI cZ (zI u7 25 x) := rfl
theorem si7_7_26 (a : Nat → Nat → Nat) (cI cZ : ClassId) (u7 : zSt) (x : Int32) : (k7 a cI cZ u7).set 0 (a 7 99, .inr (7, (fl7 a u7).set 26 (.int x))) = k7 a cI cZ (zI u7 26 x) := rfl
theorem si7_7_27 (a : Nat → Nat → Nat) (cI cZ : ClassId) (u7 : zSt) (x : Int32) : (k7 a cI cZ u7).set 0 (a 7 99, .inr (7, (fl7 a u7).set 27 (.int x))) = k7 a cI cZ (zI u7 27 x) := rfl
theorem si7_7_28 (a : Nat → Nat → Nat) (cI cZ : ClassId) (u7 : zSt) (x : Int32) : (k7 a cI cZ u7).set 0 (a 7 99, .inr (7, (fl7 a u7).set 28 (.int x))) = k7 a cI cZ (zI u7 28 x) := rfl
theorem si7_7_34 (a : Nat → Nat → Nat) (cI cZ : ClassId) (u7 : zSt) (x : Int32) : (k7 a cI cZ u7).set 0 (a 7 99, .inr (7, (fl7 a u7).set 34 (.int x))) = k7 a cI cZ (zI u7 34 x) := rfl
theorem si7_7_39 (a : Nat → Nat → Nat) (cI cZ : ClassId) (u7 : zSt) (x : Int32) : (k7 a cI cZ u7).set 0 (a 7 99, .inr (7, (fl7 a u7).set 39 (.int x))) = k7 a cI cZ (zI u7 39 x) := rfl
theorem si7_7_40 (a : Nat → Nat → Nat) (cI cZ : ClassId) (u7 : zSt) (x : Int32) : (k7 a cI cZ u7).set 0 (a 7 99, .inr (7, (fl7 a u7).set 40 (.int x))) = k7 a cI cZ (zI u7 40 x) := rfl
def kb (a : Nat → Nat → Nat) (cI cZ : ClassId) (u : zSt × zSt) : va_W := wl0 a cI cZ u.1 ++ (wl3 a cI cZ u.2)
theorem geb_0 (a : Nat → Nat → Nat) (cI cZ : ClassId) (u0 u3 : zSt) : (kb a cI cZ (u0, u3))[0]? = some (a 0 99, .inr (0, fl0 a u0)) := rfl
theorem pab_0_3 (a : Nat → Nat → Nat) (cI cZ : ClassId) (u0 u3 : zSt) : (kb a cI cZ (u0, u3))[1]? = some (a 0 3, .inl (cI, 60, .inl (u0.2 3))) := rfl
theorem sab_0_3 (a : Nat → Nat → Nat) (cI cZ : ClassId) (u0 u3 : zSt) (f : Nat → Int32) : (kb a cI cZ (u0, u3)).set 1 (a 0 3, .inl (cI, 60, .inl f)) = kb a cI cZ ((zA u0 3 f), u3) := rfl
theorem sib_0_0 (a : Nat → Nat → Nat) (cI cZ : ClassId) (u0 u3 : zSt) (x : Int32) : (kb a cI cZ (u0, u3)).set 0 (a 0 99, .inr (0, (fl0 a u0).set 0 (.int x))) = kb a cI cZ ((zI u0 0 x), u3) := rfl
theorem sib_0_1 (a : Nat → Nat → Nat) (cI cZ : ClassId) (u0 u3 : zSt) (x : Int32) : (kb a cI cZ (u0, u3)).set 0 (a 0 99, .inr (0, (fl0 a u0).set 1 (.int x))) = kb a cI cZ ((zI u0 1 x), u3) := rfl
theorem sib_0_2 (a : Nat → Nat → Nat) (cI cZ : ClassId) (u0 u3 : zSt) (x : Int32) : (kb a cI cZ (u0, u3)).set 0 (a 0 99, .inr (0, (fl0 a u0).set 2 (.int x))) = kb a cI cZ ((zI u0 2 x), u3) := rfl
theorem sib_0_4 (a : Nat → Nat → Nat) (cI cZ : ClassId) (u0 u3 : zSt) (x : Int32) : (kb a cI cZ (u0, u3)).set 0 (a 0 99, .inr (0, (fl0 a u0).set 4 (.int x))) = kb a cI cZ ((zI u0 4 x), u3) := rfl
theorem geb_3 (a : Nat → Nat → Nat) (cI cZ : ClassId) (u0 u3 : zSt) : (kb a cI cZ (u0, u3))[2]? = some (a 3 99, .inr (3, fl3 a u3)) := rfl
theorem pab_3_0 (a : Nat → Nat → Nat) (cI cZ : ClassId) (u0 u3 : zSt) : (kb a cI cZ (u0, u3))[3]? = some (a 3 0, .inl (cI, 12, .inl (u3.2 0))) := rfl
theorem sab_3_0 (a : Nat → Nat → Nat) (cI cZ : ClassId) (u0 u3 : zSt) (f : Nat → Int32) : (kb a cI cZ (u0, u3)).set 3 (a 3 0, .inl (cI, 12, .inl f)) = kb a cI cZ (u0, (zA u3 0 f)) := rfl
theorem pab_3_1 (a : Nat → Nat → Nat) (cI cZ : ClassId) (u0 u3 : zSt) : (kb a cI cZ (u0, u3))[4]? = some (a 3 1, .inl (cI, 12, .inl (u3.2 1))) := rfl
theorem sab_3_1 (a : Nat → Nat → Nat) (cI cZ : ClassId) (u0 u3 : zSt) (f : Nat → Int32) : (kb a cI cZ (u0, u3)).set 4 (a 3 1, .inl (cI, 12, .inl f)) = kb a cI cZ (u0, (zA u3 1 f)) := rfl
theorem pab_3_2 (a : Nat → Nat → Nat) (cI cZ : ClassId) (u0 u3 : zSt) : (kb a cI cZ (u0, u3))[5]? = some (a 3 2, .inl (cI, 12, .inl (u3.2 2))) := rfl
theorem sab_3_2 (a : Nat → Nat → Nat) (cI cZ : ClassId) (u0 u3 : zSt) (f : Nat → Int32) : (kb a cI cZ (u0, u3)).set 5 (a 3 2, .inl (cI, 12, .inl f)) = kb a cI cZ (u0, (zA u3 2 f)) := rfl
theorem pab_3_3 (a : Nat → Nat → Nat) (cI cZ : ClassId) (u0 u3 : zSt) : (kb a cI cZ (u0, u3))[6]? = some (a 3 3, .inl (cI, 12, .inl (u3.2 3))) := rfl
theorem sab_3_3 (a : Nat → Nat → Nat) (cI cZ : ClassId) (u0 u3 : zSt) (f : Nat → Int32) : (kb a cI cZ (u0, u3)).set 6 (a 3 3, .inl (cI, 12, .inl f)) = kb a cI cZ (u0, (zA u3 3 f)) := rfl
theorem pab_3_4 (a : Nat → Nat → Nat) (cI cZ : ClassId) (u0 u3 : zSt) : (kb a cI cZ (u0, u3))[7]? = some (a 3 4, .inl (cI, 12, .inl (u3.2 4))) := rfl
theorem sab_3_4 (a : Nat → Nat → Nat) (cI cZ : ClassId) (u0 u3 : zSt) (f : Nat → Int32) : (kb a cI cZ (u0, u3)).set 7 (a 3 4, .inl (cI, 12, .inl f)) = kb a cI cZ (u0, (zA u3 4 f)) := rfl
theorem pab_3_6 (a : Nat → Nat → Nat) (cI cZ : ClassId) (u0 u3 : zSt) : (kb a cI cZ (u0, u3))[8]? = some (a 3 6, .inl (cI, 60, .inl (u3.2 6))) := rfl
theorem sab_3_6 (a : Nat → Nat → Nat) (cI cZ : ClassId) (u0 u3 : zSt) (f : Nat → Int32) : (kb a cI cZ (u0, u3)).set 8 (a 3 6, .inl (cI, 60, .inl f)) = kb a cI cZ (u0, (zA u3 6 f)) := rfl
theorem sib_3_5 (a : Nat → Nat → Nat) (cI cZ : ClassId) (u0 u3 : zSt) (x : Int32) : (kb a cI cZ (u0, u3)).set 2 (a 3 99, .inr (3, (fl3 a u3).set 5 (.int x))) = kb a cI cZ (u0, (zI u3 5 x)) := rfl
theorem sib_3_7 (a : Nat → Nat → Nat) (cI cZ : ClassId) (u0 u3 : zSt) (x : Int32) : (kb a cI cZ (u0, u3)).set 2 (a 3 99, .inr (3, (fl3 a u3).set 7 (.int x))) = kb a cI cZ (u0, (zI u3 7 x)) := rfl
theorem sib_3_8 (a : Nat → Nat → Nat) (cI cZ : ClassId) (u0 u3 : zSt) (x : Int32) : (kb a cI cZ (u0, u3)).set 2 (a 3 99, .inr (3, (fl3 a u3).set 8 (.int x))) = kb a cI cZ (u0, (zI u3 8 x)) := rfl
def k6 (a : Nat → Nat → Nat) (cI cZ : ClassId) (u : zSt × zSt × zSt × zSt × zSt × zSt) : va_W := wl6 a ++ (wl1 a cI cZ u.2.1 ++ (wl3 a cI cZ u.2.2.2.1 ++ (wl5 a cI cZ u.2.2.2.2.2 ++ (wl0 a cI cZ u.1 ++ (wl2 a cI cZ u.2.2.1 ++ (wl4 a cI cZ u.2.2.2.2.1))))))
theorem ge6_6 (a : Nat → Nat → Nat) (cI cZ : ClassId) (u0 u1 u2 u3 u4 u5 : zSt) : (k6 a cI cZ (u0, u1, u2, u3, u4, u5))[0]? = some (a 6 99, .inr (6, fl6 a)) := rfl
theorem ge6_1 (a : Nat → Nat → Nat) (cI cZ : ClassId) (u0 u1 u2 u3 u4 u5 : zSt) : (k6 a cI cZ (u0, u1, u2, u3, u4, u5))[1]? = some (a 1 99, .inr (1, fl1 a u1)) := rfl
theorem pa6_1_0 (a : Nat → Nat → Nat) (cI cZ : ClassId) (u0 u1 u2 u3 u4 u5 : zSt) : (k6 a cI cZ (u0, u1, u2, u3, u4, u5))[2]? = some (a 1 0, .inl (cI, 6, .inl (u1.2 0))) := rfl
theorem pa6_1_1 (a : Nat → Nat → Nat) (cI cZ : ClassId) (u0 u1 u2 u3 u4 u5 : zSt) : (k6 a cI cZ (u0, u1, u2, u3, u4, u5))[3]? = some (a 1 1, .inl (cI, 6, .inl (u1.2 1))) := rfl
theorem pa6_1_2 (a : Nat → Nat → Nat) (cI cZ : ClassId) (u0 u1 u2 u3 u4 u5 : zSt) : (k6 a cI cZ (u0, u1, u2, u3, u4, u5))[4]? = some (a 1 2, .inl (cI, 6, .inl (u1.2 2))) := rfl
theorem pa6_1_3 (a : Nat → Nat → Nat) (cI cZ : ClassId) (u0 u1 u2 u3 u4 u5 : zSt) : (k6 a cI cZ (u0, u1, u2, u3, u4, u5))[5]? = some (a 1 3, .inl (cI, 6, .inl (u1.2 3))) := rfl
theorem sa6_1_3 (a : Nat → Nat → Nat) (cI cZ : ClassId) (u0 u1 u2 u3 u4 u5 : zSt) (f : Nat → Int32) : (k6 a cI cZ (u0, u1, u2, u3, u4, u5)).set 5 (a 1 3, .inl (cI, 6, .inl f)) = k6 a cI cZ (u0, (zA u1 3 f), u2, u3, u4, u5) := rfl
theorem pa6_1_5 (a : Nat → Nat → Nat) (cI cZ : ClassId) (u0 u1 u2 u3 u4 u5 : zSt) : (k6 a cI cZ (u0, u1, u2, u3, u4, u5))[6]? = some (a 1 5, .inl (cI, 6, .inl (u1.2 5))) := rfl
theorem pa6_1_9 (a : Nat → Nat → Nat) (cI cZ : ClassId) (u0 u1 u2 u3 u4 u5 : zSt) : (k6 a cI cZ (u0, u1, u2, u3, u4, u5))[7]? = some (a 1 9, .inl (cI, 6, .inl (u1.2 9))) := rfl
theorem pa6_1_12 (a : Nat → Nat → Nat) (cI cZ : ClassId) (u0 u1 u2 u3 u4 u5 : zSt) : (k6 a cI cZ (u0, u1, u2, u3, u4, u5))[8]? = some (a 1 12, .inl (cI, 7, .inl (u1.2 12))) := rfl
theorem pa6_1_13 (a : Nat → Nat → Nat) (cI cZ : ClassId) (u0 u1 u2 u3 u4 u5 : zSt) : (k6 a cI cZ (u0, u1, u2, u3, u4, u5))[9]? = some (a 1 13, .inl (cI, 7, .inl (u1.2 13))) := rfl
theorem pa6_1_14 (a : Nat → Nat → Nat) (cI cZ : ClassId) (u0 u1 u2 u3 u4 u5 : zSt) : (k6 a cI cZ (u0, u1, u2, u3, u4, u5))[10]? = some (a 1 14, .inl (cI, 7, .inl (u1.2 14))) := rfl
theorem pa6_1_15 (a : Nat → Nat → Nat) (cI cZ : ClassId) (u0 u1 u2 u3 u4 u5 : zSt) : (k6 a cI cZ (u0, u1, u2, u3, u4, u5))[11]? = some (a 1 15, .inl (cI, 7, .inl (u1.2 15))) := rfl
theorem ge6_3 (a : Nat → Nat → Nat) (cI cZ : ClassId) (u0 u1 u2 u3 u4 u5 : zSt) : (k6 a cI cZ (u0, u1, u2, u3, u4, u5))[12]? = some (a 3 99, .inr (3, fl3 a u3)) := rfl
theorem pa6_3_0 (a : Nat → Nat → Nat) (cI cZ : ClassId) (u0 u1 u2 u3 u4 u5 : zSt) : (k6 a cI cZ (u0, u1, u2, u3, u4, u5))[13]? = some (a 3 0, .inl (cI, 12, .inl (u3.2 0))) := rfl
theorem pa6_3_1 (a : Nat → Nat → Nat) (cI cZ : ClassId) (u0 u1 u2 u3 u4 u5 : zSt) : (k6 a cI cZ (u0, u1, u2, u3, u4, u5))[14]? = some (a 3 1, .inl (cI, 12, .inl (u3.2 1))) := rfl
theorem pa6_3_2 (a : Nat → Nat → Nat) (cI cZ : ClassId) (u0 u1 u2 u3 u4 u5 : zSt) : (k6 a cI cZ (u0, u1, u2, u3, u4, u5))[15]? = some (a 3 2, .inl (cI, 12, .inl (u3.2 2))) := rfl
theorem pa6_3_3 (a : Nat → Nat → Nat) (cI cZ : ClassId) (u0 u1 u2 u3 u4 u5 : zSt) : (k6 a cI cZ (u0, u1, u2, u3, u4, u5))[16]? = some (a 3 3, .inl (cI, 12, .inl (u3.2 3))) := rfl
theorem pa6_3_4 (a : Nat → Nat → Nat) (cI cZ : ClassId) (u0 u1 u2 u3 u4 u5 : zSt) : (k6 a cI cZ (u0, u1, u2, u3, u4, u5))[17]? = some (a 3 4, .inl (cI, 12, .inl (u3.2 4))) := rfl
theorem pa6_3_6 (a : Nat → Nat → Nat) (cI cZ : ClassId) (u0 u1 u2 u3 u4 u5 : zSt) : (k6 a cI cZ (u0, u1, u2, u3, u4, u5))[18]? = some (a 3 6, .inl (cI, 60, .inl (u3.2 6))) := rfl
theorem ge6_5 (a : Nat → Nat → Nat) (cI cZ : ClassId) (u0 u1 u2 u3 u4 u5 : zSt) : (k6 a cI cZ (u0, u1, u2, u3, u4, u5))[19]? = some (a 5 99, .inr (5, fl5 a u5)) := rfl
theorem pa6_5_0 (a : Nat → Nat → Nat) (cI cZ : ClassId) (u0 u1 u2 u3 u4 u5 : zSt) : (k6 a cI cZ (u0, u1, u2, u3, u4, u5))[20]? = some (a 5 0, .inl (cI, 100, .inl (u5.2 0))) := rfl
theorem pa6_5_1 (a : Nat → Nat → Nat) (cI cZ : ClassId) (u0 u1 u2 u3 u4 u5 : zSt) : (k6 a cI cZ (u0, u1, u2, u3, u4, u5))[21]? = some (a 5 1, .inl (cZ, 100, .inl (u5.2 1))) := rfl
theorem pa6_5_2 (a : Nat → Nat → Nat) (cI cZ : ClassId) (u0 u1 u2 u3 u4 u5 : zSt) : (k6 a cI cZ (u0, u1, u2, u3, u4, u5))[22]? = some (a 5 2, .inl (cI, 100, .inl (u5.2 2))) := rfl
theorem pa6_5_3 (a : Nat → Nat → Nat) (cI cZ : ClassId) (u0 u1 u2 u3 u4 u5 : zSt) : (k6 a cI cZ (u0, u1, u2, u3, u4, u5))[23]? = some (a 5 3, .inl (cI, 100, .inl (u5.2 3))) := rfl
theorem si6_5_5 (a : Nat → Nat → Nat) (cI cZ : ClassId) (u0 u1 u2 u3 u4 u5 : zSt) (x : Int32) : (k6 a cI cZ (u0, u1, u2, u3, u4, u5)).set 19 (a 5 99, .inr (5, (fl5 a u5).set 5 (.int x))) = k6 a cI cZ (u0, u1, u2, u3, u4, (zI u5 5 x)) := rfl
theorem ge6_0 (a : Nat → Nat → Nat) (cI cZ : ClassId) (u0 u1 u2 u3 u4 u5 : zSt) : (k6 a cI cZ (u0, u1, u2, u3, u4, u5))[24]? = some (a 0 99, .inr (0, fl0 a u0)) := rfl
theorem pa6_0_3 (a : Nat → Nat → Nat) (cI cZ : ClassId) (u0 u1 u2 u3 u4 u5 : zSt) : (k6 a cI cZ (u0, u1, u2, u3, u4, u5))[25]? = some (a 0 3, .inl (cI, 60, .inl (u0.2 3))) := rfl
theorem ge6_2 (a : Nat → Nat → Nat) (cI cZ : ClassId) (u0 u1 u2 u3 u4 u5 : zSt) : (k6 a cI cZ (u0, u1, u2, u3, u4, u5))[26]? = some (a 2 99, .inr (2, fl2 a u2)) := rfl
theorem pa6_2_0 (a : Nat → Nat → Nat) (cI cZ : ClassId) (u0 u1 u2 u3 u4 u5 : zSt) : (k6 a cI cZ (u0, u1, u2, u3, u4, u5))[27]? = some (a 2 0, .inl (cI, 10, .inl (u2.2 0))) := rfl
theorem pa6_2_2 (a : Nat → Nat → Nat) (cI cZ : ClassId) (u0 u1 u2 u3 u4 u5 : zSt) : (k6 a cI cZ (u0, u1, u2, u3, u4, u5))[28]? = some (a 2 2, .inl (cI, 6, .inl (u2.2 2))) := rfl
theorem pa6_2_3 (a : Nat → Nat → Nat) (cI cZ : ClassId) (u0 u1 u2 u3 u4 u5 : zSt) : (k6 a cI cZ (u0, u1, u2, u3, u4, u5))[29]? = some (a 2 3, .inl (cI, 6, .inl (u2.2 3))) := rfl
theorem pa6_2_4 (a : Nat → Nat → Nat) (cI cZ : ClassId) (u0 u1 u2 u3 u4 u5 : zSt) : (k6 a cI cZ (u0, u1, u2, u3, u4, u5))[30]? = some (a 2 4, .inl (cI, 6, .inl (u2.2 4))) := rfl
theorem pa6_2_6 (a : Nat → Nat → Nat) (cI cZ : ClassId) (u0 u1 u2 u3 u4 u5 : zSt) : (k6 a cI cZ (u0, u1, u2, u3, u4, u5))[31]? = some (a 2 6, .inl (cI, 10, .inl (u2.2 6))) := rfl
theorem si6_2_5 (a : Nat → Nat → Nat) (cI cZ : ClassId) (u0 u1 u2 u3 u4 u5 : zSt) (x : Int32) : (k6 a cI cZ (u0, u1, u2, u3, u4, u5)).set 26 (a 2 99, .inr (2, (fl2 a u2).set 5 (.int x))) = k6 a cI cZ (u0, u1, (zI u2 5 x), u3, u4, u5) := rfl
theorem ge6_4 (a : Nat → Nat → Nat) (cI cZ : ClassId) (u0 u1 u2 u3 u4 u5 : zSt) : (k6 a cI cZ (u0, u1, u2, u3, u4, u5))[32]? = some (a 4 99, .inr (4, fl4 a u4)) := rfl
theorem pa6_4_0 (a : Nat → Nat → Nat) (cI cZ : ClassId) (u0 u1 u2 u3 u4 u5 : zSt) : (k6 a cI cZ (u0, u1, u2, u3, u4, u5))[33]? = some (a 4 0, .inl (cI, 42, .inl (u4.2 0))) := rfl
theorem sa6_4_0 (a : Nat → Nat → Nat) (cI cZ : ClassId) (u0 u1 u2 u3 u4 u5 : zSt) (f : Nat → Int32) : (k6 a cI cZ (u0, u1, u2, u3, u4, u5)).set 33 (a 4 0, .inl (cI, 42, .inl f)) = k6 a cI cZ (u0, u1, u2, u3, (zA u4 0 f), u5) := rfl
theorem pa6_4_3 (a : Nat → Nat → Nat) (cI cZ : ClassId) (u0 u1 u2 u3 u4 u5 : zSt) : (k6 a cI cZ (u0, u1, u2, u3, u4, u5))[34]? = some (a 4 3, .inl (cI, 6, .inl (u4.2 3))) := rfl
theorem pa6_4_4 (a : Nat → Nat → Nat) (cI cZ : ClassId) (u0 u1 u2 u3 u4 u5 : zSt) : (k6 a cI cZ (u0, u1, u2, u3, u4, u5))[35]? = some (a 4 4, .inl (cI, 6, .inl (u4.2 4))) := rfl
theorem pa6_4_5 (a : Nat → Nat → Nat) (cI cZ : ClassId) (u0 u1 u2 u3 u4 u5 : zSt) : (k6 a cI cZ (u0, u1, u2, u3, u4, u5))[36]? = some (a 4 5, .inl (cI, 6, .inl (u4.2 5))) := rfl
theorem pa6_4_6 (a : Nat → Nat → Nat) (cI cZ : ClassId) (u0 u1 u2 u3 u4 u5 : zSt) : (k6 a cI cZ (u0, u1, u2, u3, u4, u5))[37]? = some (a 4 6, .inl (cI, 1944, .inl (u4.2 6))) := rfl
theorem si6_4_2 (a : Nat → Nat → Nat) (cI cZ : ClassId) (u0 u1 u2 u3 u4 u5 : zSt) (x : Int32) : (k6 a cI cZ (u0, u1, u2, u3, u4, u5)).set 32 (a 4 99, .inr (4, (fl4 a u4).set 2 (.int x))) = k6 a cI cZ (u0, u1, u2, u3, (zI u4 2 x), u5) := rfl
set_option maxRecDepth 20000 in
theorem frb_0 (a : Nat → Nat → Nat) (cI cZ : ClassId) (u0 u3 : zSt) : zFr (kb a cI cZ (u0, u3)) (k0 a cI cZ u0) (fun u : zSt => k0 a cI cZ u) (fun u : zSt => kb a cI cZ (u, u3)) := zFr.of (wr := wl3 a cI cZ u3) [0, 1] [2, 3, 4, 5, 6, 7, 8] [7, 8, 0, 1, 2, 3, 4, 5, 6] rfl rfl rfl rfl (by decide) rfl (fun _ => rfl) (fun _ => rfl) rfl
set_option maxRecDepth 20000 in
theorem frb_3 (a : Nat → Nat → Nat) (cI cZ : ClassId) (u0 u3 : zSt) : zFr (kb a cI cZ (u0, u3)) (k3 a cI cZ u3) (fun u : zSt => k3 a cI cZ u) (fun u : zSt => kb a cI cZ (u0, u)) := zFr.of (wr := wl0 a cI cZ u0) [2, 3, 4, 5, 6, 7, 8] [0, 1] [0, 1, 2, 3, 4, 5, 6, 7, 8] rfl rfl rfl rfl (by decide) rfl (fun _ => rfl) (fun _ => rfl) rfl
set_option maxRecDepth 20000 in
theorem fr6_0 (a : Nat → Nat → Nat) (cI cZ : ClassId) (u0 u1 u2 u3 u4 u5 : zSt) : zFr (k6 a cI cZ (u0, u1, u2, u3, u4, u5)) (k0 a cI cZ u0) (fun u : zSt => k0 a cI cZ u) (fun u : zSt => k6 a cI cZ (u, u1, u2, u3, u4, u5)) := zFr.of (wr := wl6 a ++ (wl1 a cI cZ u1 ++ (wl3 a cI cZ u3 ++ (wl5 a cI cZ u5 ++ (wl2 a cI cZ u2 ++ (wl4 a cI cZ u4)))))) [24, 25] [0, 1, 2, 3, 4, 5, 6, 7, 8, 9, 10, 11, 12, 13, 14, 15, 16, 17, 18, 19, 20, 21, 22, 23, 26, 27, 28, 29, 30, 31, 32, 33, 34, 35, 36, 37] [0, 1, 2, 3, 4, 5, 6, 7, 8, 9, 10, 11, 12, 13, 14, 15, 16, 17, 18, 19, 20, 21, 22, 23, 36, 37, 24, 25, 26, 27, 28, 29, 30, 31, 32, 33, 34, 35] rfl rfl rfl rfl (by decide) rfl (fun _ => rfl) (fun _ => rfl) rfl
set_option maxRecDepth 20000 in
theorem fr6_1 (a : Nat → Nat → Nat) (cI cZ : ClassId) (u0 u1 u2 u3 u4 u5 : zSt) : zFr (k6 a cI cZ (u0, u1, u2, u3, u4, u5)) (k1 a cI cZ u1) (fun u : zSt => k1 a cI cZ u) (fun u : zSt => k6 a cI cZ (u0, u, u2, u3, u4, u5)) := zFr.of (wr := wl6 a ++ (wl3 a cI cZ u3 ++ (wl5 a cI cZ u5 ++ (wl0 a cI cZ u0 ++ (wl2 a cI cZ u2 ++ (wl4 a cI cZ u4)))))) [1, 2, 3, 4, 5, 6, 7, 8, 9, 10, 11] [0, 12, 13, 14, 15, 16, 17, 18, 19, 20, 21, 22, 23, 24, 25, 26, 27, 28, 29, 30, 31, 32, 33, 34, 35, 36, 37] [0, 27, 28, 29, 30, 31, 32, 33, 34, 35, 36, 37, 1, 2, 3, 4, 5, 6, 7, 8, 9, 10, 11, 12, 13, 14, 15, 16, 17, 18, 19, 20, 21, 22, 23, 24, 25, 26] rfl rfl rfl rfl (by decide) rfl (fun _ => rfl) (fun _ => rfl) rfl
set_option maxRecDepth 20000 in
theorem fr6_2 (a : Nat → Nat → Nat) (cI cZ : ClassId) (u0 u1 u2 u3 u4 u5 : zSt) : zFr (k6 a cI cZ (u0, u1, u2, u3, u4, u5)) (k2 a cI cZ u2) (fun u : zSt => k2 a cI cZ u) (fun u : zSt => k6 a cI cZ (u0, u1, u, u3, u4, u5)) := zFr.of (wr := wl6 a ++ (wl1 a cI cZ u1 ++ (wl3 a cI cZ u3 ++ (wl5 a cI cZ u5 ++ (wl0 a cI cZ u0 ++ (wl4 a cI cZ u4)))))) [26, 27, 28, 29, 30, 31] [0, 1, 2, 3, 4, 5, 6, 7, 8, 9, 10, 11, 12, 13, 14, 15, 16, 17, 18, 19, 20, 21, 22, 23, 24, 25, 32, 33, 34, 35, 36, 37] [0, 1, 2, 3, 4, 5, 6, 7, 8, 9, 10, 11, 12, 13, 14, 15, 16, 17, 18, 19, 20, 21, 22, 23, 24, 25, 32, 33, 34, 35, 36, 37, 26, 27, 28, 29, 30, 31] rfl rfl rfl rfl (by decide) rfl (fun _ => rfl) (fun _ => rfl) rfl
set_option maxRecDepth 20000 in
theorem fr6_3 (a : Nat → Nat → Nat) (cI cZ : ClassId) (u0 u1 u2 u3 u4 u5 : zSt) : zFr (k6 a cI cZ (u0, u1, u2, u3, u4, u5)) (k3 a cI cZ u3) (fun u : zSt => k3 a cI cZ u) (fun u : zSt => k6 a cI cZ (u0, u1, u2, u, u4, u5)) := zFr.of (wr := wl6 a ++ (wl1 a cI cZ u1 ++ (wl5 a cI cZ u5 ++ (wl0 a cI cZ u0 ++ (wl2 a cI cZ u2 ++ (wl4 a cI cZ u4)))))) [12, 13, 14, 15, 16, 17, 18] [0, 1, 2, 3, 4, 5, 6, 7, 8, 9, 10, 11, 19, 20, 21, 22, 23, 24, 25, 26, 27, 28, 29, 30, 31, 32, 33, 34, 35, 36, 37] [0, 1, 2, 3, 4, 5, 6, 7, 8, 9, 10, 11, 31, 32, 33, 34, 35, 36, 37, 12, 13, 14, 15, 16, 17, 18, 19, 20, 21, 22, 23, 24, 25, 26, 27, 28, 29, 30] rfl rfl rfl rfl (by decide) rfl (fun _ => rfl) (fun _ => rfl) rfl
set_option maxRecDepth 20000 in
theorem fr6_4 (a : Nat → Nat → Nat) (cI cZ : ClassId) (u0 u1 u2 u3 u4 u5 : zSt) : zFr (k6 a cI cZ (u0, u1, u2, u3, u4, u5)) (k4 a cI cZ u4) (fun u : zSt => k4 a cI cZ u) (fun u : zSt => k6 a cI cZ (u0, u1, u2, u3, u, u5)) := zFr.of (wr := wl6 a ++ (wl1 a cI cZ u1 ++ (wl3 a cI cZ u3 ++ (wl5 a cI cZ u5 ++ (wl0 a cI cZ u0 ++ (wl2 a cI cZ u2)))))) [32, 33, 34, 35, 36, 37] [0, 1, 2, 3, 4, 5, 6, 7, 8, 9, 10, 11, 12, 13, 14, 15, 16, 17, 18, 19, 20, 21, 22, 23, 24, 25, 26, 27, 28, 29, 30, 31] [0, 1, 2, 3, 4, 5, 6, 7, 8, 9, 10, 11, 12, 13, 14, 15, 16, 17, 18, 19, 20, 21, 22, 23, 24, 25, 26, 27, 28, 29, 30, 31, 32, 33, 34, 35, 36, 37] rfl rfl rfl rfl (by decide) rfl (fun _ => rfl) (fun _ => rfl) rfl
set_option maxRecDepth 20000 in
theorem fr6_5 (a : Nat → Nat → Nat) (cI cZ : ClassId) (u0 u1 u2 u3 u4 u5 : zSt) : zFr (k6 a cI cZ (u0, u1, u2, u3, u4, u5)) (k5 a cI cZ u5) (fun u : zSt => k5 a cI cZ u) (fun u : zSt => k6 a cI cZ (u0, u1, u2, u3, u4, u)) := zFr.of (wr := wl6 a ++ (wl1 a cI cZ u1 ++ (wl3 a cI cZ u3 ++ (wl0 a cI cZ u0 ++ (wl2 a cI cZ u2 ++ (wl4 a cI cZ u4)))))) [19, 20, 21, 22, 23] [0, 1, 2, 3, 4, 5, 6, 7, 8, 9, 10, 11, 12, 13, 14, 15, 16, 17, 18, 24, 25, 26, 27, 28, 29, 30, 31, 32, 33, 34, 35, 36, 37] [0, 1, 2, 3, 4, 5, 6, 7, 8, 9, 10, 11, 12, 13, 14, 15, 16, 17, 18, 33, 34, 35, 36, 37, 19, 20, 21, 22, 23, 24, 25, 26, 27, 28, 29, 30, 31, 32] rfl rfl rfl rfl (by decide) rfl (fun _ => rfl) (fun _ => rfl) rfl
set_option maxRecDepth 20000 in
theorem fr6_b (a : Nat → Nat → Nat) (cI cZ : ClassId) (u0 u1 u2 u3 u4 u5 : zSt) : zFr (k6 a cI cZ (u0, u1, u2, u3, u4, u5)) (kb a cI cZ (u0, u3)) (fun u : zSt × zSt => kb a cI cZ u) (fun u : zSt × zSt => k6 a cI cZ (u.1, u1, u2, u.2, u4, u5)) := zFr.of (wr := wl6 a ++ (wl1 a cI cZ u1 ++ (wl5 a cI cZ u5 ++ (wl2 a cI cZ u2 ++ (wl4 a cI cZ u4))))) [24, 25, 12, 13, 14, 15, 16, 17, 18] [0, 1, 2, 3, 4, 5, 6, 7, 8, 9, 10, 11, 19, 20, 21, 22, 23, 26, 27, 28, 29, 30, 31, 32, 33, 34, 35, 36, 37] [0, 1, 2, 3, 4, 5, 6, 7, 8, 9, 10, 11, 31, 32, 33, 34, 35, 36, 37, 12, 13, 14, 15, 16, 29, 30, 17, 18, 19, 20, 21, 22, 23, 24, 25, 26, 27, 28] rfl rfl rfl rfl (by decide) rfl (fun _ => rfl) (fun _ => rfl) rfl
def rmG (d : Nat) : Room := { frames := d, cells := 0, slots := 0, locals := 30 * d }
def rmC (d : Nat) : Room := { frames := 2 * d + 2, cells := 0, slots := 0, locals := 60 * d + 60 }
def rmP (d : Nat) : Room := { frames := 2 * d + 3, cells := 0, slots := 0, locals := 60 * d + 88 }

