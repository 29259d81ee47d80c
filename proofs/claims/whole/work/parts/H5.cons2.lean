/-! THE CONSTRUCTORS: the reference's, up to anew; printed by program (wip/gen/p_h4.py) -/
def mw0 (gK : Nat → Nat × Nat) (gi : Nat → Nat → Int32) (gl : Nat → Nat → Int64) (gd : Nat → Nat → UInt64) (gr : Nat → Nat → Option Nat) (gs : Nat) : Wd := (gK, gi, gl, gd, gr, 108, gs)
def mw1 (gK : Nat → Nat × Nat) (gi : Nat → Nat → Int32) (gl : Nat → Nat → Int64) (gd : Nat → Nat → UInt64) (gr : Nat → Nat → Option Nat) (gs : Nat) : Wd := nw (mw0 gK gi gl gd gr gs) 10 68
def mw2 (gK : Nat → Nat × Nat) (gi : Nat → Nat → Int32) (gl : Nat → Nat → Int64) (gd : Nat → Nat → UInt64) (gr : Nat → Nat → Option Nat) (gs : Nat) : Wd := sI (mw1 gK gi gl gd gr gs) 108 0 6
def mw3 (gK : Nat → Nat × Nat) (gi : Nat → Nat → Int32) (gl : Nat → Nat → Int64) (gd : Nat → Nat → UInt64) (gr : Nat → Nat → Option Nat) (gs : Nat) : Wd := nw (mw2 gK gi gl gd gr gs) 20 9
def mw4 (gK : Nat → Nat × Nat) (gi : Nat → Nat → Int32) (gl : Nat → Nat → Int64) (gd : Nat → Nat → UInt64) (gr : Nat → Nat → Option Nat) (gs : Nat) : Wd := sR (mw3 gK gi gl gd gr gs) 108 1 (some 109)
def mw5 (gK : Nat → Nat × Nat) (gi : Nat → Nat → Int32) (gl : Nat → Nat → Int64) (gd : Nat → Nat → UInt64) (gr : Nat → Nat → Option Nat) (gs : Nat) : Wd := nw (mw4 gK gi gl gd gr gs) 20 9
def mw6 (gK : Nat → Nat × Nat) (gi : Nat → Nat → Int32) (gl : Nat → Nat → Int64) (gd : Nat → Nat → UInt64) (gr : Nat → Nat → Option Nat) (gs : Nat) : Wd := sR (mw5 gK gi gl gd gr gs) 108 2 (some 110)
def mw7 (gK : Nat → Nat × Nat) (gi : Nat → Nat → Int32) (gl : Nat → Nat → Int64) (gd : Nat → Nat → UInt64) (gr : Nat → Nat → Option Nat) (gs : Nat) : Wd := nw (mw6 gK gi gl gd gr gs) 20 9
def mw8 (gK : Nat → Nat × Nat) (gi : Nat → Nat → Int32) (gl : Nat → Nat → Int64) (gd : Nat → Nat → UInt64) (gr : Nat → Nat → Option Nat) (gs : Nat) : Wd := sR (mw7 gK gi gl gd gr gs) 108 3 (some 111)
def mw9 (gK : Nat → Nat × Nat) (gi : Nat → Nat → Int32) (gl : Nat → Nat → Int64) (gd : Nat → Nat → UInt64) (gr : Nat → Nat → Option Nat) (gs : Nat) : Wd := nw (mw8 gK gi gl gd gr gs) 21 600
def mw10 (gK : Nat → Nat × Nat) (gi : Nat → Nat → Int32) (gl : Nat → Nat → Int64) (gd : Nat → Nat → UInt64) (gr : Nat → Nat → Option Nat) (gs : Nat) : Wd := sR (mw9 gK gi gl gd gr gs) 108 4 (some 112)
def mw11 (gK : Nat → Nat × Nat) (gi : Nat → Nat → Int32) (gl : Nat → Nat → Int64) (gd : Nat → Nat → UInt64) (gr : Nat → Nat → Option Nat) (gs : Nat) : Wd := nw (mw10 gK gi gl gd gr gs) 20 9
def mw12 (gK : Nat → Nat × Nat) (gi : Nat → Nat → Int32) (gl : Nat → Nat → Int64) (gd : Nat → Nat → UInt64) (gr : Nat → Nat → Option Nat) (gs : Nat) : Wd := sR (mw11 gK gi gl gd gr gs) 108 12 (some 113)
def mw13 (gK : Nat → Nat × Nat) (gi : Nat → Nat → Int32) (gl : Nat → Nat → Int64) (gd : Nat → Nat → UInt64) (gr : Nat → Nat → Option Nat) (gs : Nat) : Wd := nw (mw12 gK gi gl gd gr gs) 20 9
def mw14 (gK : Nat → Nat × Nat) (gi : Nat → Nat → Int32) (gl : Nat → Nat → Int64) (gd : Nat → Nat → UInt64) (gr : Nat → Nat → Option Nat) (gs : Nat) : Wd := sR (mw13 gK gi gl gd gr gs) 108 13 (some 114)
def mw15 (gK : Nat → Nat × Nat) (gi : Nat → Nat → Int32) (gl : Nat → Nat → Int64) (gd : Nat → Nat → UInt64) (gr : Nat → Nat → Option Nat) (gs : Nat) : Wd := nw (mw14 gK gi gl gd gr gs) 20 180
def mw16 (gK : Nat → Nat × Nat) (gi : Nat → Nat → Int32) (gl : Nat → Nat → Int64) (gd : Nat → Nat → UInt64) (gr : Nat → Nat → Option Nat) (gs : Nat) : Wd := sR (mw15 gK gi gl gd gr gs) 108 14 (some 115)
def mw17 (gK : Nat → Nat × Nat) (gi : Nat → Nat → Int32) (gl : Nat → Nat → Int64) (gd : Nat → Nat → UInt64) (gr : Nat → Nat → Option Nat) (gs : Nat) : Wd := nw (mw16 gK gi gl gd gr gs) 20 1440
def mw18 (gK : Nat → Nat × Nat) (gi : Nat → Nat → Int32) (gl : Nat → Nat → Int64) (gd : Nat → Nat → UInt64) (gr : Nat → Nat → Option Nat) (gs : Nat) : Wd := sR (mw17 gK gi gl gd gr gs) 108 15 (some 116)
def mw19 (gK : Nat → Nat × Nat) (gi : Nat → Nat → Int32) (gl : Nat → Nat → Int64) (gd : Nat → Nat → UInt64) (gr : Nat → Nat → Option Nat) (gs : Nat) : Wd := nw (mw18 gK gi gl gd gr gs) 20 1440
def mw20 (gK : Nat → Nat × Nat) (gi : Nat → Nat → Int32) (gl : Nat → Nat → Int64) (gd : Nat → Nat → UInt64) (gr : Nat → Nat → Option Nat) (gs : Nat) : Wd := sR (mw19 gK gi gl gd gr gs) 108 16 (some 117)
def mw21 (gK : Nat → Nat × Nat) (gi : Nat → Nat → Int32) (gl : Nat → Nat → Int64) (gd : Nat → Nat → UInt64) (gr : Nat → Nat → Option Nat) (gs : Nat) : Wd := nw (mw20 gK gi gl gd gr gs) 20 1440
def mw22 (gK : Nat → Nat × Nat) (gi : Nat → Nat → Int32) (gl : Nat → Nat → Int64) (gd : Nat → Nat → UInt64) (gr : Nat → Nat → Option Nat) (gs : Nat) : Wd := sR (mw21 gK gi gl gd gr gs) 108 17 (some 118)
def mw23 (gK : Nat → Nat × Nat) (gi : Nat → Nat → Int32) (gl : Nat → Nat → Int64) (gd : Nat → Nat → UInt64) (gr : Nat → Nat → Option Nat) (gs : Nat) : Wd := nw (mw22 gK gi gl gd gr gs) 20 1440
def mw24 (gK : Nat → Nat × Nat) (gi : Nat → Nat → Int32) (gl : Nat → Nat → Int64) (gd : Nat → Nat → UInt64) (gr : Nat → Nat → Option Nat) (gs : Nat) : Wd := sR (mw23 gK gi gl gd gr gs) 108 18 (some 119)
def mw25 (gK : Nat → Nat × Nat) (gi : Nat → Nat → Int32) (gl : Nat → Nat → Int64) (gd : Nat → Nat → UInt64) (gr : Nat → Nat → Option Nat) (gs : Nat) : Wd := nw (mw24 gK gi gl gd gr gs) 20 180
def mw26 (gK : Nat → Nat × Nat) (gi : Nat → Nat → Int32) (gl : Nat → Nat → Int64) (gd : Nat → Nat → UInt64) (gr : Nat → Nat → Option Nat) (gs : Nat) : Wd := sR (mw25 gK gi gl gd gr gs) 108 19 (some 120)
def mw27 (gK : Nat → Nat × Nat) (gi : Nat → Nat → Int32) (gl : Nat → Nat → Int64) (gd : Nat → Nat → UInt64) (gr : Nat → Nat → Option Nat) (gs : Nat) : Wd := nw (mw26 gK gi gl gd gr gs) 20 369
def mw28 (gK : Nat → Nat × Nat) (gi : Nat → Nat → Int32) (gl : Nat → Nat → Int64) (gd : Nat → Nat → UInt64) (gr : Nat → Nat → Option Nat) (gs : Nat) : Wd := sR (mw27 gK gi gl gd gr gs) 108 21 (some 121)
def mw29 (gK : Nat → Nat × Nat) (gi : Nat → Nat → Int32) (gl : Nat → Nat → Int64) (gd : Nat → Nat → UInt64) (gr : Nat → Nat → Option Nat) (gs : Nat) : Wd := nw (mw28 gK gi gl gd gr gs) 20 369
def mw30 (gK : Nat → Nat × Nat) (gi : Nat → Nat → Int32) (gl : Nat → Nat → Int64) (gd : Nat → Nat → UInt64) (gr : Nat → Nat → Option Nat) (gs : Nat) : Wd := sR (mw29 gK gi gl gd gr gs) 108 22 (some 122)
def mw31 (gK : Nat → Nat × Nat) (gi : Nat → Nat → Int32) (gl : Nat → Nat → Int64) (gd : Nat → Nat → UInt64) (gr : Nat → Nat → Option Nat) (gs : Nat) : Wd := nw (mw30 gK gi gl gd gr gs) 20 369
def mw32 (gK : Nat → Nat × Nat) (gi : Nat → Nat → Int32) (gl : Nat → Nat → Int64) (gd : Nat → Nat → UInt64) (gr : Nat → Nat → Option Nat) (gs : Nat) : Wd := sR (mw31 gK gi gl gd gr gs) 108 23 (some 123)
def mw33 (gK : Nat → Nat × Nat) (gi : Nat → Nat → Int32) (gl : Nat → Nat → Int64) (gd : Nat → Nat → UInt64) (gr : Nat → Nat → Option Nat) (gs : Nat) : Wd := nw (mw32 gK gi gl gd gr gs) 20 369
def mw34 (gK : Nat → Nat × Nat) (gi : Nat → Nat → Int32) (gl : Nat → Nat → Int64) (gd : Nat → Nat → UInt64) (gr : Nat → Nat → Option Nat) (gs : Nat) : Wd := sR (mw33 gK gi gl gd gr gs) 108 24 (some 124)
def mw35 (gK : Nat → Nat × Nat) (gi : Nat → Nat → Int32) (gl : Nat → Nat → Int64) (gd : Nat → Nat → UInt64) (gr : Nat → Nat → Option Nat) (gs : Nat) : Wd := nw (mw34 gK gi gl gd gr gs) 20 369
def mw36 (gK : Nat → Nat × Nat) (gi : Nat → Nat → Int32) (gl : Nat → Nat → Int64) (gd : Nat → Nat → UInt64) (gr : Nat → Nat → Option Nat) (gs : Nat) : Wd := sR (mw35 gK gi gl gd gr gs) 108 25 (some 125)
def mw37 (gK : Nat → Nat × Nat) (gi : Nat → Nat → Int32) (gl : Nat → Nat → Int64) (gd : Nat → Nat → UInt64) (gr : Nat → Nat → Option Nat) (gs : Nat) : Wd := nw (mw36 gK gi gl gd gr gs) 20 9
def mw38 (gK : Nat → Nat × Nat) (gi : Nat → Nat → Int32) (gl : Nat → Nat → Int64) (gd : Nat → Nat → UInt64) (gr : Nat → Nat → Option Nat) (gs : Nat) : Wd := sR (mw37 gK gi gl gd gr gs) 108 26 (some 126)
def mw39 (gK : Nat → Nat × Nat) (gi : Nat → Nat → Int32) (gl : Nat → Nat → Int64) (gd : Nat → Nat → UInt64) (gr : Nat → Nat → Option Nat) (gs : Nat) : Wd := nw (mw38 gK gi gl gd gr gs) 20 2001
def mw40 (gK : Nat → Nat × Nat) (gi : Nat → Nat → Int32) (gl : Nat → Nat → Int64) (gd : Nat → Nat → UInt64) (gr : Nat → Nat → Option Nat) (gs : Nat) : Wd := sR (mw39 gK gi gl gd gr gs) 108 31 (some 127)
def mw41 (gK : Nat → Nat × Nat) (gi : Nat → Nat → Int32) (gl : Nat → Nat → Int64) (gd : Nat → Nat → UInt64) (gr : Nat → Nat → Option Nat) (gs : Nat) : Wd := nw (mw40 gK gi gl gd gr gs) 22 2000
def mw42 (gK : Nat → Nat × Nat) (gi : Nat → Nat → Int32) (gl : Nat → Nat → Int64) (gd : Nat → Nat → UInt64) (gr : Nat → Nat → Option Nat) (gs : Nat) : Wd := sR (mw41 gK gi gl gd gr gs) 108 32 (some 128)
def mw43 (gK : Nat → Nat × Nat) (gi : Nat → Nat → Int32) (gl : Nat → Nat → Int64) (gd : Nat → Nat → UInt64) (gr : Nat → Nat → Option Nat) (gs : Nat) : Wd := nw (mw42 gK gi gl gd gr gs) 22 2001
def mw44 (gK : Nat → Nat × Nat) (gi : Nat → Nat → Int32) (gl : Nat → Nat → Int64) (gd : Nat → Nat → UInt64) (gr : Nat → Nat → Option Nat) (gs : Nat) : Wd := sR (mw43 gK gi gl gd gr gs) 108 33 (some 129)
def mw45 (gK : Nat → Nat × Nat) (gi : Nat → Nat → Int32) (gl : Nat → Nat → Int64) (gd : Nat → Nat → UInt64) (gr : Nat → Nat → Option Nat) (gs : Nat) : Wd := nw (mw44 gK gi gl gd gr gs) 20 40320
def mw46 (gK : Nat → Nat × Nat) (gi : Nat → Nat → Int32) (gl : Nat → Nat → Int64) (gd : Nat → Nat → UInt64) (gr : Nat → Nat → Option Nat) (gs : Nat) : Wd := sR (mw45 gK gi gl gd gr gs) 108 34 (some 130)
def mw47 (gK : Nat → Nat × Nat) (gi : Nat → Nat → Int32) (gl : Nat → Nat → Int64) (gd : Nat → Nat → UInt64) (gr : Nat → Nat → Option Nat) (gs : Nat) : Wd := nw (mw46 gK gi gl gd gr gs) 20 40320
def mw48 (gK : Nat → Nat × Nat) (gi : Nat → Nat → Int32) (gl : Nat → Nat → Int64) (gd : Nat → Nat → UInt64) (gr : Nat → Nat → Option Nat) (gs : Nat) : Wd := sR (mw47 gK gi gl gd gr gs) 108 35 (some 131)
def mw49 (gK : Nat → Nat × Nat) (gi : Nat → Nat → Int32) (gl : Nat → Nat → Int64) (gd : Nat → Nat → UInt64) (gr : Nat → Nat → Option Nat) (gs : Nat) : Wd := nw (mw48 gK gi gl gd gr gs) 20 6
def mw50 (gK : Nat → Nat × Nat) (gi : Nat → Nat → Int32) (gl : Nat → Nat → Int64) (gd : Nat → Nat → UInt64) (gr : Nat → Nat → Option Nat) (gs : Nat) : Wd := sR (mw49 gK gi gl gd gr gs) 108 37 (some 132)
def mw51 (gK : Nat → Nat × Nat) (gi : Nat → Nat → Int32) (gl : Nat → Nat → Int64) (gd : Nat → Nat → UInt64) (gr : Nat → Nat → Option Nat) (gs : Nat) : Wd := nw (mw50 gK gi gl gd gr gs) 22 5040
def mw52 (gK : Nat → Nat × Nat) (gi : Nat → Nat → Int32) (gl : Nat → Nat → Int64) (gd : Nat → Nat → UInt64) (gr : Nat → Nat → Option Nat) (gs : Nat) : Wd := sR (mw51 gK gi gl gd gr gs) 108 38 (some 133)
def mw53 (gK : Nat → Nat × Nat) (gi : Nat → Nat → Int32) (gl : Nat → Nat → Int64) (gd : Nat → Nat → UInt64) (gr : Nat → Nat → Option Nat) (gs : Nat) : Wd := nw (mw52 gK gi gl gd gr gs) 20 5040
def mw54 (gK : Nat → Nat × Nat) (gi : Nat → Nat → Int32) (gl : Nat → Nat → Int64) (gd : Nat → Nat → UInt64) (gr : Nat → Nat → Option Nat) (gs : Nat) : Wd := sR (mw53 gK gi gl gd gr gs) 108 39 (some 134)
def mw55 (gK : Nat → Nat × Nat) (gi : Nat → Nat → Int32) (gl : Nat → Nat → Int64) (gd : Nat → Nat → UInt64) (gr : Nat → Nat → Option Nat) (gs : Nat) : Wd := nw (mw54 gK gi gl gd gr gs) 20 10001
def mw56 (gK : Nat → Nat × Nat) (gi : Nat → Nat → Int32) (gl : Nat → Nat → Int64) (gd : Nat → Nat → UInt64) (gr : Nat → Nat → Option Nat) (gs : Nat) : Wd := sR (mw55 gK gi gl gd gr gs) 108 42 (some 135)
def mw57 (gK : Nat → Nat × Nat) (gi : Nat → Nat → Int32) (gl : Nat → Nat → Int64) (gd : Nat → Nat → UInt64) (gr : Nat → Nat → Option Nat) (gs : Nat) : Wd := nw (mw56 gK gi gl gd gr gs) 20 100
def mw58 (gK : Nat → Nat × Nat) (gi : Nat → Nat → Int32) (gl : Nat → Nat → Int64) (gd : Nat → Nat → UInt64) (gr : Nat → Nat → Option Nat) (gs : Nat) : Wd := sR (mw57 gK gi gl gd gr gs) 108 43 (some 136)
def mw59 (gK : Nat → Nat × Nat) (gi : Nat → Nat → Int32) (gl : Nat → Nat → Int64) (gd : Nat → Nat → UInt64) (gr : Nat → Nat → Option Nat) (gs : Nat) : Wd := nw (mw58 gK gi gl gd gr gs) 20 9
def mw60 (gK : Nat → Nat × Nat) (gi : Nat → Nat → Int32) (gl : Nat → Nat → Int64) (gd : Nat → Nat → UInt64) (gr : Nat → Nat → Option Nat) (gs : Nat) : Wd := sR (mw59 gK gi gl gd gr gs) 108 44 (some 137)
def mw61 (gK : Nat → Nat × Nat) (gi : Nat → Nat → Int32) (gl : Nat → Nat → Int64) (gd : Nat → Nat → UInt64) (gr : Nat → Nat → Option Nat) (gs : Nat) : Wd := nw (mw60 gK gi gl gd gr gs) 20 9
def mw62 (gK : Nat → Nat × Nat) (gi : Nat → Nat → Int32) (gl : Nat → Nat → Int64) (gd : Nat → Nat → UInt64) (gr : Nat → Nat → Option Nat) (gs : Nat) : Wd := sR (mw61 gK gi gl gd gr gs) 108 45 (some 138)
def mw63 (gK : Nat → Nat × Nat) (gi : Nat → Nat → Int32) (gl : Nat → Nat → Int64) (gd : Nat → Nat → UInt64) (gr : Nat → Nat → Option Nat) (gs : Nat) : Wd := nw (mw62 gK gi gl gd gr gs) 20 9
def mw64 (gK : Nat → Nat × Nat) (gi : Nat → Nat → Int32) (gl : Nat → Nat → Int64) (gd : Nat → Nat → UInt64) (gr : Nat → Nat → Option Nat) (gs : Nat) : Wd := sR (mw63 gK gi gl gd gr gs) 108 46 (some 139)
def mw65 (gK : Nat → Nat × Nat) (gi : Nat → Nat → Int32) (gl : Nat → Nat → Int64) (gd : Nat → Nat → UInt64) (gr : Nat → Nat → Option Nat) (gs : Nat) : Wd := nw (mw64 gK gi gl gd gr gs) 20 3600
def mw66 (gK : Nat → Nat × Nat) (gi : Nat → Nat → Int32) (gl : Nat → Nat → Int64) (gd : Nat → Nat → UInt64) (gr : Nat → Nat → Option Nat) (gs : Nat) : Wd := sR (mw65 gK gi gl gd gr gs) 108 53 (some 140)
def mw67 (gK : Nat → Nat × Nat) (gi : Nat → Nat → Int32) (gl : Nat → Nat → Int64) (gd : Nat → Nat → UInt64) (gr : Nat → Nat → Option Nat) (gs : Nat) : Wd := nw (mw66 gK gi gl gd gr gs) 20 300
def mw68 (gK : Nat → Nat × Nat) (gi : Nat → Nat → Int32) (gl : Nat → Nat → Int64) (gd : Nat → Nat → UInt64) (gr : Nat → Nat → Option Nat) (gs : Nat) : Wd := sR (mw67 gK gi gl gd gr gs) 108 55 (some 141)
def mw69 (gK : Nat → Nat × Nat) (gi : Nat → Nat → Int32) (gl : Nat → Nat → Int64) (gd : Nat → Nat → UInt64) (gr : Nat → Nat → Option Nat) (gs : Nat) : Wd := nw (mw68 gK gi gl gd gr gs) 24 300
def mw70 (gK : Nat → Nat × Nat) (gi : Nat → Nat → Int32) (gl : Nat → Nat → Int64) (gd : Nat → Nat → UInt64) (gr : Nat → Nat → Option Nat) (gs : Nat) : Wd := sR (mw69 gK gi gl gd gr gs) 108 56 (some 142)
def mw71 (gK : Nat → Nat × Nat) (gi : Nat → Nat → Int32) (gl : Nat → Nat → Int64) (gd : Nat → Nat → UInt64) (gr : Nat → Nat → Option Nat) (gs : Nat) : Wd := nw (mw70 gK gi gl gd gr gs) 20 300
def mw72 (gK : Nat → Nat × Nat) (gi : Nat → Nat → Int32) (gl : Nat → Nat → Int64) (gd : Nat → Nat → UInt64) (gr : Nat → Nat → Option Nat) (gs : Nat) : Wd := sR (mw71 gK gi gl gd gr gs) 108 57 (some 143)
def mw73 (gK : Nat → Nat × Nat) (gi : Nat → Nat → Int32) (gl : Nat → Nat → Int64) (gd : Nat → Nat → UInt64) (gr : Nat → Nat → Option Nat) (gs : Nat) : Wd := nw (mw72 gK gi gl gd gr gs) 20 400
def mw74 (gK : Nat → Nat × Nat) (gi : Nat → Nat → Int32) (gl : Nat → Nat → Int64) (gd : Nat → Nat → UInt64) (gr : Nat → Nat → Option Nat) (gs : Nat) : Wd := sR (mw73 gK gi gl gd gr gs) 108 59 (some 144)
def mw75 (gK : Nat → Nat × Nat) (gi : Nat → Nat → Int32) (gl : Nat → Nat → Int64) (gd : Nat → Nat → UInt64) (gr : Nat → Nat → Option Nat) (gs : Nat) : Wd := nw (mw74 gK gi gl gd gr gs) 20 8
def mw76 (gK : Nat → Nat × Nat) (gi : Nat → Nat → Int32) (gl : Nat → Nat → Int64) (gd : Nat → Nat → UInt64) (gr : Nat → Nat → Option Nat) (gs : Nat) : Wd := sR (mw75 gK gi gl gd gr gs) 108 62 (some 145)
def mw77 (gK : Nat → Nat × Nat) (gi : Nat → Nat → Int32) (gl : Nat → Nat → Int64) (gd : Nat → Nat → UInt64) (gr : Nat → Nat → Option Nat) (gs : Nat) : Wd := nw (mw76 gK gi gl gd gr gs) 20 8
def mw78 (gK : Nat → Nat × Nat) (gi : Nat → Nat → Int32) (gl : Nat → Nat → Int64) (gd : Nat → Nat → UInt64) (gr : Nat → Nat → Option Nat) (gs : Nat) : Wd := sR (mw77 gK gi gl gd gr gs) 108 63 (some 146)
def mw79 (gK : Nat → Nat × Nat) (gi : Nat → Nat → Int32) (gl : Nat → Nat → Int64) (gd : Nat → Nat → UInt64) (gr : Nat → Nat → Option Nat) (gs : Nat) : Wd := nw (mw78 gK gi gl gd gr gs) 23 512
def mw80 (gK : Nat → Nat × Nat) (gi : Nat → Nat → Int32) (gl : Nat → Nat → Int64) (gd : Nat → Nat → UInt64) (gr : Nat → Nat → Option Nat) (gs : Nat) : Wd := sR (mw79 gK gi gl gd gr gs) 108 64 (some 147)
def mw81 (gK : Nat → Nat × Nat) (gi : Nat → Nat → Int32) (gl : Nat → Nat → Int64) (gd : Nat → Nat → UInt64) (gr : Nat → Nat → Option Nat) (gs : Nat) : Wd := nw (mw80 gK gi gl gd gr gs) 22 512
def mw82 (gK : Nat → Nat × Nat) (gi : Nat → Nat → Int32) (gl : Nat → Nat → Int64) (gd : Nat → Nat → UInt64) (gr : Nat → Nat → Option Nat) (gs : Nat) : Wd := sR (mw81 gK gi gl gd gr gs) 108 65 (some 148)
def mw83 (gK : Nat → Nat × Nat) (gi : Nat → Nat → Int32) (gl : Nat → Nat → Int64) (gd : Nat → Nat → UInt64) (gr : Nat → Nat → Option Nat) (gs : Nat) : Wd := nw (mw82 gK gi gl gd gr gs) 23 64
def mw84 (gK : Nat → Nat × Nat) (gi : Nat → Nat → Int32) (gl : Nat → Nat → Int64) (gd : Nat → Nat → UInt64) (gr : Nat → Nat → Option Nat) (gs : Nat) : Wd := sR (mw83 gK gi gl gd gr gs) 108 66 (some 149)
def mw85 (gK : Nat → Nat × Nat) (gi : Nat → Nat → Int32) (gl : Nat → Nat → Int64) (gd : Nat → Nat → UInt64) (gr : Nat → Nat → Option Nat) (gs : Nat) : Wd := nw (mw84 gK gi gl gd gr gs) 22 64
def mw86 (gK : Nat → Nat × Nat) (gi : Nat → Nat → Int32) (gl : Nat → Nat → Int64) (gd : Nat → Nat → UInt64) (gr : Nat → Nat → Option Nat) (gs : Nat) : Wd := sR (mw85 gK gi gl gd gr gs) 108 67 (some 150)
theorem kl_8 (gK : Nat → Nat × Nat) (gi : Nat → Nat → Int32) (gl : Nat → Nat → Int64) (gd : Nat → Nat → UInt64) (gr : Nat → Nat → Option Nat) (gs : Nat) : val (0, 1000, 8, [some (.ref 0), some (.ref 64), none, none], [], (mw0 gK gi gl gd gr gs)) = val (0, 1000, 12, [some (.ref 0), some (.ref 64), none, none], [.ref 108, .ref 108], (mw1 gK gi gl gd gr gs)) := by
  refine (val_g (c2 := (0, 1000, 11, [some (.ref 0), some (.ref 64), none, none], [.ref 108], (mw1 gK gi gl gd gr gs))) rfl).trans ?_
  refine (val_g (c2 := (0, 1000, 12, [some (.ref 0), some (.ref 64), none, none], [.ref 108, .ref 108], (mw1 gK gi gl gd gr gs))) rfl).trans ?_
  rfl
theorem kl_170 (gK : Nat → Nat × Nat) (gi : Nat → Nat → Int32) (gl : Nat → Nat → Int64) (gd : Nat → Nat → UInt64) (gr : Nat → Nat → Option Nat) (gs : Nat) : val (170, 999, 0, [some (.ref 108)], [], (mw1 gK gi gl gd gr gs)) = val (170, 999, 372, [some (.ref 108)], [.ref 108], (mw86 gK gi gl gd gr gs)) := by
  refine (val_g (c2 := (170, 999, 1, [some (.ref 108)], [.ref 108], (mw1 gK gi gl gd gr gs))) rfl).trans ?_
  refine (val_g (c2 := (170, 999, 4, [some (.ref 108)], [], (mw1 gK gi gl gd gr gs))) rfl).trans ?_
  refine (val_g (c2 := (170, 999, 5, [some (.ref 108)], [.ref 108], (mw1 gK gi gl gd gr gs))) rfl).trans ?_
  refine (val_g (c2 := (170, 999, 7, [some (.ref 108)], [.int 6, .ref 108], (mw1 gK gi gl gd gr gs))) rfl).trans ?_
  refine (val_pf (w2 := (mw2 gK gi gl gd gr gs)) rfl (show wK (mw1 gK gi gl gd gr gs) 108 = (10, 68) from rfl) rfl).trans ?_
  refine (val_g (c2 := (170, 999, 11, [some (.ref 108)], [.ref 108], (mw2 gK gi gl gd gr gs))) rfl).trans ?_
  refine (val_g (c2 := (170, 999, 13, [some (.ref 108)], [.int 9, .ref 108], (mw2 gK gi gl gd gr gs))) rfl).trans ?_
  refine (val_g (c2 := (170, 999, 15, [some (.ref 108)], [.ref 109, .ref 108], (mw3 gK gi gl gd gr gs))) rfl).trans ?_
  refine (val_pf (w2 := (mw4 gK gi gl gd gr gs)) rfl (show wK (mw3 gK gi gl gd gr gs) 108 = (10, 68) from rfl) rfl).trans ?_
  refine (val_g (c2 := (170, 999, 19, [some (.ref 108)], [.ref 108], (mw4 gK gi gl gd gr gs))) rfl).trans ?_
  refine (val_g (c2 := (170, 999, 21, [some (.ref 108)], [.int 9, .ref 108], (mw4 gK gi gl gd gr gs))) rfl).trans ?_
  refine (val_g (c2 := (170, 999, 23, [some (.ref 108)], [.ref 110, .ref 108], (mw5 gK gi gl gd gr gs))) rfl).trans ?_
  refine (val_pf (w2 := (mw6 gK gi gl gd gr gs)) rfl (show wK (mw5 gK gi gl gd gr gs) 108 = (10, 68) from rfl) rfl).trans ?_
  refine (val_g (c2 := (170, 999, 27, [some (.ref 108)], [.ref 108], (mw6 gK gi gl gd gr gs))) rfl).trans ?_
  refine (val_g (c2 := (170, 999, 29, [some (.ref 108)], [.int 9, .ref 108], (mw6 gK gi gl gd gr gs))) rfl).trans ?_
  refine (val_g (c2 := (170, 999, 31, [some (.ref 108)], [.ref 111, .ref 108], (mw7 gK gi gl gd gr gs))) rfl).trans ?_
  refine (val_pf (w2 := (mw8 gK gi gl gd gr gs)) rfl (show wK (mw7 gK gi gl gd gr gs) 108 = (10, 68) from rfl) rfl).trans ?_
  refine (val_g (c2 := (170, 999, 35, [some (.ref 108)], [.ref 108], (mw8 gK gi gl gd gr gs))) rfl).trans ?_
  refine (val_g (c2 := (170, 999, 38, [some (.ref 108)], [.int 600, .ref 108], (mw8 gK gi gl gd gr gs))) rfl).trans ?_
  refine (val_g (c2 := (170, 999, 40, [some (.ref 108)], [.ref 112, .ref 108], (mw9 gK gi gl gd gr gs))) rfl).trans ?_
  refine (val_pf (w2 := (mw10 gK gi gl gd gr gs)) rfl (show wK (mw9 gK gi gl gd gr gs) 108 = (10, 68) from rfl) rfl).trans ?_
  refine (val_g (c2 := (170, 999, 44, [some (.ref 108)], [.ref 108], (mw10 gK gi gl gd gr gs))) rfl).trans ?_
  refine (val_g (c2 := (170, 999, 46, [some (.ref 108)], [.int 9, .ref 108], (mw10 gK gi gl gd gr gs))) rfl).trans ?_
  refine (val_g (c2 := (170, 999, 48, [some (.ref 108)], [.ref 113, .ref 108], (mw11 gK gi gl gd gr gs))) rfl).trans ?_
  refine (val_pf (w2 := (mw12 gK gi gl gd gr gs)) rfl (show wK (mw11 gK gi gl gd gr gs) 108 = (10, 68) from rfl) rfl).trans ?_
  refine (val_g (c2 := (170, 999, 52, [some (.ref 108)], [.ref 108], (mw12 gK gi gl gd gr gs))) rfl).trans ?_
  refine (val_g (c2 := (170, 999, 54, [some (.ref 108)], [.int 9, .ref 108], (mw12 gK gi gl gd gr gs))) rfl).trans ?_
  refine (val_g (c2 := (170, 999, 56, [some (.ref 108)], [.ref 114, .ref 108], (mw13 gK gi gl gd gr gs))) rfl).trans ?_
  refine (val_pf (w2 := (mw14 gK gi gl gd gr gs)) rfl (show wK (mw13 gK gi gl gd gr gs) 108 = (10, 68) from rfl) rfl).trans ?_
  refine (val_g (c2 := (170, 999, 60, [some (.ref 108)], [.ref 108], (mw14 gK gi gl gd gr gs))) rfl).trans ?_
  refine (val_g (c2 := (170, 999, 63, [some (.ref 108)], [.int 180, .ref 108], (mw14 gK gi gl gd gr gs))) rfl).trans ?_
  refine (val_g (c2 := (170, 999, 65, [some (.ref 108)], [.ref 115, .ref 108], (mw15 gK gi gl gd gr gs))) rfl).trans ?_
  refine (val_pf (w2 := (mw16 gK gi gl gd gr gs)) rfl (show wK (mw15 gK gi gl gd gr gs) 108 = (10, 68) from rfl) rfl).trans ?_
  refine (val_g (c2 := (170, 999, 69, [some (.ref 108)], [.ref 108], (mw16 gK gi gl gd gr gs))) rfl).trans ?_
  refine (val_g (c2 := (170, 999, 72, [some (.ref 108)], [.int 1440, .ref 108], (mw16 gK gi gl gd gr gs))) rfl).trans ?_
  refine (val_g (c2 := (170, 999, 74, [some (.ref 108)], [.ref 116, .ref 108], (mw17 gK gi gl gd gr gs))) rfl).trans ?_
  refine (val_pf (w2 := (mw18 gK gi gl gd gr gs)) rfl (show wK (mw17 gK gi gl gd gr gs) 108 = (10, 68) from rfl) rfl).trans ?_
  refine (val_g (c2 := (170, 999, 78, [some (.ref 108)], [.ref 108], (mw18 gK gi gl gd gr gs))) rfl).trans ?_
  refine (val_g (c2 := (170, 999, 81, [some (.ref 108)], [.int 1440, .ref 108], (mw18 gK gi gl gd gr gs))) rfl).trans ?_
  refine (val_g (c2 := (170, 999, 83, [some (.ref 108)], [.ref 117, .ref 108], (mw19 gK gi gl gd gr gs))) rfl).trans ?_
  refine (val_pf (w2 := (mw20 gK gi gl gd gr gs)) rfl (show wK (mw19 gK gi gl gd gr gs) 108 = (10, 68) from rfl) rfl).trans ?_
  refine (val_g (c2 := (170, 999, 87, [some (.ref 108)], [.ref 108], (mw20 gK gi gl gd gr gs))) rfl).trans ?_
  refine (val_g (c2 := (170, 999, 90, [some (.ref 108)], [.int 1440, .ref 108], (mw20 gK gi gl gd gr gs))) rfl).trans ?_
  refine (val_g (c2 := (170, 999, 92, [some (.ref 108)], [.ref 118, .ref 108], (mw21 gK gi gl gd gr gs))) rfl).trans ?_
  refine (val_pf (w2 := (mw22 gK gi gl gd gr gs)) rfl (show wK (mw21 gK gi gl gd gr gs) 108 = (10, 68) from rfl) rfl).trans ?_
  refine (val_g (c2 := (170, 999, 96, [some (.ref 108)], [.ref 108], (mw22 gK gi gl gd gr gs))) rfl).trans ?_
  refine (val_g (c2 := (170, 999, 99, [some (.ref 108)], [.int 1440, .ref 108], (mw22 gK gi gl gd gr gs))) rfl).trans ?_
  refine (val_g (c2 := (170, 999, 101, [some (.ref 108)], [.ref 119, .ref 108], (mw23 gK gi gl gd gr gs))) rfl).trans ?_
  refine (val_pf (w2 := (mw24 gK gi gl gd gr gs)) rfl (show wK (mw23 gK gi gl gd gr gs) 108 = (10, 68) from rfl) rfl).trans ?_
  refine (val_g (c2 := (170, 999, 105, [some (.ref 108)], [.ref 108], (mw24 gK gi gl gd gr gs))) rfl).trans ?_
  refine (val_g (c2 := (170, 999, 108, [some (.ref 108)], [.int 180, .ref 108], (mw24 gK gi gl gd gr gs))) rfl).trans ?_
  refine (val_g (c2 := (170, 999, 110, [some (.ref 108)], [.ref 120, .ref 108], (mw25 gK gi gl gd gr gs))) rfl).trans ?_
  refine (val_pf (w2 := (mw26 gK gi gl gd gr gs)) rfl (show wK (mw25 gK gi gl gd gr gs) 108 = (10, 68) from rfl) rfl).trans ?_
  refine (val_g (c2 := (170, 999, 114, [some (.ref 108)], [.ref 108], (mw26 gK gi gl gd gr gs))) rfl).trans ?_
  refine (val_g (c2 := (170, 999, 117, [some (.ref 108)], [.int 369, .ref 108], (mw26 gK gi gl gd gr gs))) rfl).trans ?_
  refine (val_g (c2 := (170, 999, 119, [some (.ref 108)], [.ref 121, .ref 108], (mw27 gK gi gl gd gr gs))) rfl).trans ?_
  refine (val_pf (w2 := (mw28 gK gi gl gd gr gs)) rfl (show wK (mw27 gK gi gl gd gr gs) 108 = (10, 68) from rfl) rfl).trans ?_
  refine (val_g (c2 := (170, 999, 123, [some (.ref 108)], [.ref 108], (mw28 gK gi gl gd gr gs))) rfl).trans ?_
  refine (val_g (c2 := (170, 999, 126, [some (.ref 108)], [.int 369, .ref 108], (mw28 gK gi gl gd gr gs))) rfl).trans ?_
  refine (val_g (c2 := (170, 999, 128, [some (.ref 108)], [.ref 122, .ref 108], (mw29 gK gi gl gd gr gs))) rfl).trans ?_
  refine (val_pf (w2 := (mw30 gK gi gl gd gr gs)) rfl (show wK (mw29 gK gi gl gd gr gs) 108 = (10, 68) from rfl) rfl).trans ?_
  refine (val_g (c2 := (170, 999, 132, [some (.ref 108)], [.ref 108], (mw30 gK gi gl gd gr gs))) rfl).trans ?_
  refine (val_g (c2 := (170, 999, 135, [some (.ref 108)], [.int 369, .ref 108], (mw30 gK gi gl gd gr gs))) rfl).trans ?_
  refine (val_g (c2 := (170, 999, 137, [some (.ref 108)], [.ref 123, .ref 108], (mw31 gK gi gl gd gr gs))) rfl).trans ?_
  refine (val_pf (w2 := (mw32 gK gi gl gd gr gs)) rfl (show wK (mw31 gK gi gl gd gr gs) 108 = (10, 68) from rfl) rfl).trans ?_
  refine (val_g (c2 := (170, 999, 141, [some (.ref 108)], [.ref 108], (mw32 gK gi gl gd gr gs))) rfl).trans ?_
  refine (val_g (c2 := (170, 999, 144, [some (.ref 108)], [.int 369, .ref 108], (mw32 gK gi gl gd gr gs))) rfl).trans ?_
  refine (val_g (c2 := (170, 999, 146, [some (.ref 108)], [.ref 124, .ref 108], (mw33 gK gi gl gd gr gs))) rfl).trans ?_
  refine (val_pf (w2 := (mw34 gK gi gl gd gr gs)) rfl (show wK (mw33 gK gi gl gd gr gs) 108 = (10, 68) from rfl) rfl).trans ?_
  refine (val_g (c2 := (170, 999, 150, [some (.ref 108)], [.ref 108], (mw34 gK gi gl gd gr gs))) rfl).trans ?_
  refine (val_g (c2 := (170, 999, 153, [some (.ref 108)], [.int 369, .ref 108], (mw34 gK gi gl gd gr gs))) rfl).trans ?_
  refine (val_g (c2 := (170, 999, 155, [some (.ref 108)], [.ref 125, .ref 108], (mw35 gK gi gl gd gr gs))) rfl).trans ?_
  refine (val_pf (w2 := (mw36 gK gi gl gd gr gs)) rfl (show wK (mw35 gK gi gl gd gr gs) 108 = (10, 68) from rfl) rfl).trans ?_
  refine (val_g (c2 := (170, 999, 159, [some (.ref 108)], [.ref 108], (mw36 gK gi gl gd gr gs))) rfl).trans ?_
  refine (val_g (c2 := (170, 999, 161, [some (.ref 108)], [.int 9, .ref 108], (mw36 gK gi gl gd gr gs))) rfl).trans ?_
  refine (val_g (c2 := (170, 999, 163, [some (.ref 108)], [.ref 126, .ref 108], (mw37 gK gi gl gd gr gs))) rfl).trans ?_
  refine (val_pf (w2 := (mw38 gK gi gl gd gr gs)) rfl (show wK (mw37 gK gi gl gd gr gs) 108 = (10, 68) from rfl) rfl).trans ?_
  refine (val_g (c2 := (170, 999, 167, [some (.ref 108)], [.ref 108], (mw38 gK gi gl gd gr gs))) rfl).trans ?_
  refine (val_g (c2 := (170, 999, 170, [some (.ref 108)], [.int 2001, .ref 108], (mw38 gK gi gl gd gr gs))) rfl).trans ?_
  refine (val_g (c2 := (170, 999, 172, [some (.ref 108)], [.ref 127, .ref 108], (mw39 gK gi gl gd gr gs))) rfl).trans ?_
  refine (val_pf (w2 := (mw40 gK gi gl gd gr gs)) rfl (show wK (mw39 gK gi gl gd gr gs) 108 = (10, 68) from rfl) rfl).trans ?_
  refine (val_g (c2 := (170, 999, 176, [some (.ref 108)], [.ref 108], (mw40 gK gi gl gd gr gs))) rfl).trans ?_
  refine (val_g (c2 := (170, 999, 179, [some (.ref 108)], [.int 2000, .ref 108], (mw40 gK gi gl gd gr gs))) rfl).trans ?_
  refine (val_g (c2 := (170, 999, 181, [some (.ref 108)], [.ref 128, .ref 108], (mw41 gK gi gl gd gr gs))) rfl).trans ?_
  refine (val_pf (w2 := (mw42 gK gi gl gd gr gs)) rfl (show wK (mw41 gK gi gl gd gr gs) 108 = (10, 68) from rfl) rfl).trans ?_
  refine (val_g (c2 := (170, 999, 185, [some (.ref 108)], [.ref 108], (mw42 gK gi gl gd gr gs))) rfl).trans ?_
  refine (val_g (c2 := (170, 999, 188, [some (.ref 108)], [.int 2001, .ref 108], (mw42 gK gi gl gd gr gs))) rfl).trans ?_
  refine (val_g (c2 := (170, 999, 190, [some (.ref 108)], [.ref 129, .ref 108], (mw43 gK gi gl gd gr gs))) rfl).trans ?_
  refine (val_pf (w2 := (mw44 gK gi gl gd gr gs)) rfl (show wK (mw43 gK gi gl gd gr gs) 108 = (10, 68) from rfl) rfl).trans ?_
  refine (val_g (c2 := (170, 999, 194, [some (.ref 108)], [.ref 108], (mw44 gK gi gl gd gr gs))) rfl).trans ?_
  refine (val_g (c2 := (170, 999, 196, [some (.ref 108)], [.int 40320, .ref 108], (mw44 gK gi gl gd gr gs))) rfl).trans ?_
  refine (val_g (c2 := (170, 999, 198, [some (.ref 108)], [.ref 130, .ref 108], (mw45 gK gi gl gd gr gs))) rfl).trans ?_
  refine (val_pf (w2 := (mw46 gK gi gl gd gr gs)) rfl (show wK (mw45 gK gi gl gd gr gs) 108 = (10, 68) from rfl) rfl).trans ?_
  refine (val_g (c2 := (170, 999, 202, [some (.ref 108)], [.ref 108], (mw46 gK gi gl gd gr gs))) rfl).trans ?_
  refine (val_g (c2 := (170, 999, 204, [some (.ref 108)], [.int 40320, .ref 108], (mw46 gK gi gl gd gr gs))) rfl).trans ?_
  refine (val_g (c2 := (170, 999, 206, [some (.ref 108)], [.ref 131, .ref 108], (mw47 gK gi gl gd gr gs))) rfl).trans ?_
  refine (val_pf (w2 := (mw48 gK gi gl gd gr gs)) rfl (show wK (mw47 gK gi gl gd gr gs) 108 = (10, 68) from rfl) rfl).trans ?_
  refine (val_g (c2 := (170, 999, 210, [some (.ref 108)], [.ref 108], (mw48 gK gi gl gd gr gs))) rfl).trans ?_
  refine (val_g (c2 := (170, 999, 212, [some (.ref 108)], [.int 6, .ref 108], (mw48 gK gi gl gd gr gs))) rfl).trans ?_
  refine (val_g (c2 := (170, 999, 214, [some (.ref 108)], [.ref 132, .ref 108], (mw49 gK gi gl gd gr gs))) rfl).trans ?_
  refine (val_pf (w2 := (mw50 gK gi gl gd gr gs)) rfl (show wK (mw49 gK gi gl gd gr gs) 108 = (10, 68) from rfl) rfl).trans ?_
  refine (val_g (c2 := (170, 999, 218, [some (.ref 108)], [.ref 108], (mw50 gK gi gl gd gr gs))) rfl).trans ?_
  refine (val_g (c2 := (170, 999, 221, [some (.ref 108)], [.int 5040, .ref 108], (mw50 gK gi gl gd gr gs))) rfl).trans ?_
  refine (val_g (c2 := (170, 999, 223, [some (.ref 108)], [.ref 133, .ref 108], (mw51 gK gi gl gd gr gs))) rfl).trans ?_
  refine (val_pf (w2 := (mw52 gK gi gl gd gr gs)) rfl (show wK (mw51 gK gi gl gd gr gs) 108 = (10, 68) from rfl) rfl).trans ?_
  refine (val_g (c2 := (170, 999, 227, [some (.ref 108)], [.ref 108], (mw52 gK gi gl gd gr gs))) rfl).trans ?_
  refine (val_g (c2 := (170, 999, 230, [some (.ref 108)], [.int 5040, .ref 108], (mw52 gK gi gl gd gr gs))) rfl).trans ?_
  refine (val_g (c2 := (170, 999, 232, [some (.ref 108)], [.ref 134, .ref 108], (mw53 gK gi gl gd gr gs))) rfl).trans ?_
  refine (val_pf (w2 := (mw54 gK gi gl gd gr gs)) rfl (show wK (mw53 gK gi gl gd gr gs) 108 = (10, 68) from rfl) rfl).trans ?_
  refine (val_g (c2 := (170, 999, 236, [some (.ref 108)], [.ref 108], (mw54 gK gi gl gd gr gs))) rfl).trans ?_
  refine (val_g (c2 := (170, 999, 239, [some (.ref 108)], [.int 10001, .ref 108], (mw54 gK gi gl gd gr gs))) rfl).trans ?_
  refine (val_g (c2 := (170, 999, 241, [some (.ref 108)], [.ref 135, .ref 108], (mw55 gK gi gl gd gr gs))) rfl).trans ?_
  refine (val_pf (w2 := (mw56 gK gi gl gd gr gs)) rfl (show wK (mw55 gK gi gl gd gr gs) 108 = (10, 68) from rfl) rfl).trans ?_
  refine (val_g (c2 := (170, 999, 245, [some (.ref 108)], [.ref 108], (mw56 gK gi gl gd gr gs))) rfl).trans ?_
  refine (val_g (c2 := (170, 999, 247, [some (.ref 108)], [.int 100, .ref 108], (mw56 gK gi gl gd gr gs))) rfl).trans ?_
  refine (val_g (c2 := (170, 999, 249, [some (.ref 108)], [.ref 136, .ref 108], (mw57 gK gi gl gd gr gs))) rfl).trans ?_
  refine (val_pf (w2 := (mw58 gK gi gl gd gr gs)) rfl (show wK (mw57 gK gi gl gd gr gs) 108 = (10, 68) from rfl) rfl).trans ?_
  refine (val_g (c2 := (170, 999, 253, [some (.ref 108)], [.ref 108], (mw58 gK gi gl gd gr gs))) rfl).trans ?_
  refine (val_g (c2 := (170, 999, 255, [some (.ref 108)], [.int 9, .ref 108], (mw58 gK gi gl gd gr gs))) rfl).trans ?_
  refine (val_g (c2 := (170, 999, 257, [some (.ref 108)], [.ref 137, .ref 108], (mw59 gK gi gl gd gr gs))) rfl).trans ?_
  refine (val_pf (w2 := (mw60 gK gi gl gd gr gs)) rfl (show wK (mw59 gK gi gl gd gr gs) 108 = (10, 68) from rfl) rfl).trans ?_
  refine (val_g (c2 := (170, 999, 261, [some (.ref 108)], [.ref 108], (mw60 gK gi gl gd gr gs))) rfl).trans ?_
  refine (val_g (c2 := (170, 999, 263, [some (.ref 108)], [.int 9, .ref 108], (mw60 gK gi gl gd gr gs))) rfl).trans ?_
  refine (val_g (c2 := (170, 999, 265, [some (.ref 108)], [.ref 138, .ref 108], (mw61 gK gi gl gd gr gs))) rfl).trans ?_
  refine (val_pf (w2 := (mw62 gK gi gl gd gr gs)) rfl (show wK (mw61 gK gi gl gd gr gs) 108 = (10, 68) from rfl) rfl).trans ?_
  refine (val_g (c2 := (170, 999, 269, [some (.ref 108)], [.ref 108], (mw62 gK gi gl gd gr gs))) rfl).trans ?_
  refine (val_g (c2 := (170, 999, 271, [some (.ref 108)], [.int 9, .ref 108], (mw62 gK gi gl gd gr gs))) rfl).trans ?_
  refine (val_g (c2 := (170, 999, 273, [some (.ref 108)], [.ref 139, .ref 108], (mw63 gK gi gl gd gr gs))) rfl).trans ?_
  refine (val_pf (w2 := (mw64 gK gi gl gd gr gs)) rfl (show wK (mw63 gK gi gl gd gr gs) 108 = (10, 68) from rfl) rfl).trans ?_
  refine (val_g (c2 := (170, 999, 277, [some (.ref 108)], [.ref 108], (mw64 gK gi gl gd gr gs))) rfl).trans ?_
  refine (val_g (c2 := (170, 999, 280, [some (.ref 108)], [.int 3600, .ref 108], (mw64 gK gi gl gd gr gs))) rfl).trans ?_
  refine (val_g (c2 := (170, 999, 282, [some (.ref 108)], [.ref 140, .ref 108], (mw65 gK gi gl gd gr gs))) rfl).trans ?_
  refine (val_pf (w2 := (mw66 gK gi gl gd gr gs)) rfl (show wK (mw65 gK gi gl gd gr gs) 108 = (10, 68) from rfl) rfl).trans ?_
  refine (val_g (c2 := (170, 999, 286, [some (.ref 108)], [.ref 108], (mw66 gK gi gl gd gr gs))) rfl).trans ?_
  refine (val_g (c2 := (170, 999, 289, [some (.ref 108)], [.int 300, .ref 108], (mw66 gK gi gl gd gr gs))) rfl).trans ?_
  refine (val_g (c2 := (170, 999, 291, [some (.ref 108)], [.ref 141, .ref 108], (mw67 gK gi gl gd gr gs))) rfl).trans ?_
  refine (val_pf (w2 := (mw68 gK gi gl gd gr gs)) rfl (show wK (mw67 gK gi gl gd gr gs) 108 = (10, 68) from rfl) rfl).trans ?_
  refine (val_g (c2 := (170, 999, 295, [some (.ref 108)], [.ref 108], (mw68 gK gi gl gd gr gs))) rfl).trans ?_
  refine (val_g (c2 := (170, 999, 298, [some (.ref 108)], [.int 300, .ref 108], (mw68 gK gi gl gd gr gs))) rfl).trans ?_
  refine (val_g (c2 := (170, 999, 300, [some (.ref 108)], [.ref 142, .ref 108], (mw69 gK gi gl gd gr gs))) rfl).trans ?_
  refine (val_pf (w2 := (mw70 gK gi gl gd gr gs)) rfl (show wK (mw69 gK gi gl gd gr gs) 108 = (10, 68) from rfl) rfl).trans ?_
  refine (val_g (c2 := (170, 999, 304, [some (.ref 108)], [.ref 108], (mw70 gK gi gl gd gr gs))) rfl).trans ?_
  refine (val_g (c2 := (170, 999, 307, [some (.ref 108)], [.int 300, .ref 108], (mw70 gK gi gl gd gr gs))) rfl).trans ?_
  refine (val_g (c2 := (170, 999, 309, [some (.ref 108)], [.ref 143, .ref 108], (mw71 gK gi gl gd gr gs))) rfl).trans ?_
  refine (val_pf (w2 := (mw72 gK gi gl gd gr gs)) rfl (show wK (mw71 gK gi gl gd gr gs) 108 = (10, 68) from rfl) rfl).trans ?_
  refine (val_g (c2 := (170, 999, 313, [some (.ref 108)], [.ref 108], (mw72 gK gi gl gd gr gs))) rfl).trans ?_
  refine (val_g (c2 := (170, 999, 316, [some (.ref 108)], [.int 400, .ref 108], (mw72 gK gi gl gd gr gs))) rfl).trans ?_
  refine (val_g (c2 := (170, 999, 318, [some (.ref 108)], [.ref 144, .ref 108], (mw73 gK gi gl gd gr gs))) rfl).trans ?_
  refine (val_pf (w2 := (mw74 gK gi gl gd gr gs)) rfl (show wK (mw73 gK gi gl gd gr gs) 108 = (10, 68) from rfl) rfl).trans ?_
  refine (val_g (c2 := (170, 999, 322, [some (.ref 108)], [.ref 108], (mw74 gK gi gl gd gr gs))) rfl).trans ?_
  refine (val_g (c2 := (170, 999, 324, [some (.ref 108)], [.int 8, .ref 108], (mw74 gK gi gl gd gr gs))) rfl).trans ?_
  refine (val_g (c2 := (170, 999, 326, [some (.ref 108)], [.ref 145, .ref 108], (mw75 gK gi gl gd gr gs))) rfl).trans ?_
  refine (val_pf (w2 := (mw76 gK gi gl gd gr gs)) rfl (show wK (mw75 gK gi gl gd gr gs) 108 = (10, 68) from rfl) rfl).trans ?_
  refine (val_g (c2 := (170, 999, 330, [some (.ref 108)], [.ref 108], (mw76 gK gi gl gd gr gs))) rfl).trans ?_
  refine (val_g (c2 := (170, 999, 332, [some (.ref 108)], [.int 8, .ref 108], (mw76 gK gi gl gd gr gs))) rfl).trans ?_
  refine (val_g (c2 := (170, 999, 334, [some (.ref 108)], [.ref 146, .ref 108], (mw77 gK gi gl gd gr gs))) rfl).trans ?_
  refine (val_pf (w2 := (mw78 gK gi gl gd gr gs)) rfl (show wK (mw77 gK gi gl gd gr gs) 108 = (10, 68) from rfl) rfl).trans ?_
  refine (val_g (c2 := (170, 999, 338, [some (.ref 108)], [.ref 108], (mw78 gK gi gl gd gr gs))) rfl).trans ?_
  refine (val_g (c2 := (170, 999, 341, [some (.ref 108)], [.int 512, .ref 108], (mw78 gK gi gl gd gr gs))) rfl).trans ?_
  refine (val_g (c2 := (170, 999, 343, [some (.ref 108)], [.ref 147, .ref 108], (mw79 gK gi gl gd gr gs))) rfl).trans ?_
  refine (val_pf (w2 := (mw80 gK gi gl gd gr gs)) rfl (show wK (mw79 gK gi gl gd gr gs) 108 = (10, 68) from rfl) rfl).trans ?_
  refine (val_g (c2 := (170, 999, 347, [some (.ref 108)], [.ref 108], (mw80 gK gi gl gd gr gs))) rfl).trans ?_
  refine (val_g (c2 := (170, 999, 350, [some (.ref 108)], [.int 512, .ref 108], (mw80 gK gi gl gd gr gs))) rfl).trans ?_
  refine (val_g (c2 := (170, 999, 352, [some (.ref 108)], [.ref 148, .ref 108], (mw81 gK gi gl gd gr gs))) rfl).trans ?_
  refine (val_pf (w2 := (mw82 gK gi gl gd gr gs)) rfl (show wK (mw81 gK gi gl gd gr gs) 108 = (10, 68) from rfl) rfl).trans ?_
  refine (val_g (c2 := (170, 999, 356, [some (.ref 108)], [.ref 108], (mw82 gK gi gl gd gr gs))) rfl).trans ?_
  refine (val_g (c2 := (170, 999, 358, [some (.ref 108)], [.int 64, .ref 108], (mw82 gK gi gl gd gr gs))) rfl).trans ?_
  refine (val_g (c2 := (170, 999, 360, [some (.ref 108)], [.ref 149, .ref 108], (mw83 gK gi gl gd gr gs))) rfl).trans ?_
  refine (val_pf (w2 := (mw84 gK gi gl gd gr gs)) rfl (show wK (mw83 gK gi gl gd gr gs) 108 = (10, 68) from rfl) rfl).trans ?_
  refine (val_g (c2 := (170, 999, 364, [some (.ref 108)], [.ref 108], (mw84 gK gi gl gd gr gs))) rfl).trans ?_
  refine (val_g (c2 := (170, 999, 366, [some (.ref 108)], [.int 64, .ref 108], (mw84 gK gi gl gd gr gs))) rfl).trans ?_
  refine (val_g (c2 := (170, 999, 368, [some (.ref 108)], [.ref 150, .ref 108], (mw85 gK gi gl gd gr gs))) rfl).trans ?_
  refine (val_pf (w2 := (mw86 gK gi gl gd gr gs)) rfl (show wK (mw85 gK gi gl gd gr gs) 108 = (10, 68) from rfl) rfl).trans ?_
  refine (val_g (c2 := (170, 999, 372, [some (.ref 108)], [.ref 108], (mw86 gK gi gl gd gr gs))) rfl).trans ?_
  rfl
set_option maxRecDepth 20000 in
theorem mw_gw (gK : Nat → Nat × Nat) (gi : Nat → Nat → Int32) (gl : Nat → Nat → Int64) (gd : Nat → Nat → UInt64) (gr : Nat → Nat → Option Nat) (gs : Nat) : Gw [] 43 121611 (gK, gi, gl, gd, gr, 108, gs) (mw86 gK gi gl gd gr gs) :=
  ((((((((((((((((((((((((((((((((((((((((((((((((((((((((((((((((((((((((((((((((((((((Gw.refl [] ((gK, gi, gl, gd, gr, 108, gs) : Wd)).nw 10 68).sIn _ _ (Nat.le_of_ble_eq_true rfl)).nw 20 9).sRn _ _ (Nat.le_of_ble_eq_true rfl)).nw 20 9).sRn _ _ (Nat.le_of_ble_eq_true rfl)).nw 20 9).sRn _ _ (Nat.le_of_ble_eq_true rfl)).nw 21 600).sRn _ _ (Nat.le_of_ble_eq_true rfl)).nw 20 9).sRn _ _ (Nat.le_of_ble_eq_true rfl)).nw 20 9).sRn _ _ (Nat.le_of_ble_eq_true rfl)).nw 20 180).sRn _ _ (Nat.le_of_ble_eq_true rfl)).nw 20 1440).sRn _ _ (Nat.le_of_ble_eq_true rfl)).nw 20 1440).sRn _ _ (Nat.le_of_ble_eq_true rfl)).nw 20 1440).sRn _ _ (Nat.le_of_ble_eq_true rfl)).nw 20 1440).sRn _ _ (Nat.le_of_ble_eq_true rfl)).nw 20 180).sRn _ _ (Nat.le_of_ble_eq_true rfl)).nw 20 369).sRn _ _ (Nat.le_of_ble_eq_true rfl)).nw 20 369).sRn _ _ (Nat.le_of_ble_eq_true rfl)).nw 20 369).sRn _ _ (Nat.le_of_ble_eq_true rfl)).nw 20 369).sRn _ _ (Nat.le_of_ble_eq_true rfl)).nw 20 369).sRn _ _ (Nat.le_of_ble_eq_true rfl)).nw 20 9).sRn _ _ (Nat.le_of_ble_eq_true rfl)).nw 20 2001).sRn _ _ (Nat.le_of_ble_eq_true rfl)).nw 22 2000).sRn _ _ (Nat.le_of_ble_eq_true rfl)).nw 22 2001).sRn _ _ (Nat.le_of_ble_eq_true rfl)).nw 20 40320).sRn _ _ (Nat.le_of_ble_eq_true rfl)).nw 20 40320).sRn _ _ (Nat.le_of_ble_eq_true rfl)).nw 20 6).sRn _ _ (Nat.le_of_ble_eq_true rfl)).nw 22 5040).sRn _ _ (Nat.le_of_ble_eq_true rfl)).nw 20 5040).sRn _ _ (Nat.le_of_ble_eq_true rfl)).nw 20 10001).sRn _ _ (Nat.le_of_ble_eq_true rfl)).nw 20 100).sRn _ _ (Nat.le_of_ble_eq_true rfl)).nw 20 9).sRn _ _ (Nat.le_of_ble_eq_true rfl)).nw 20 9).sRn _ _ (Nat.le_of_ble_eq_true rfl)).nw 20 9).sRn _ _ (Nat.le_of_ble_eq_true rfl)).nw 20 3600).sRn _ _ (Nat.le_of_ble_eq_true rfl)).nw 20 300).sRn _ _ (Nat.le_of_ble_eq_true rfl)).nw 24 300).sRn _ _ (Nat.le_of_ble_eq_true rfl)).nw 20 300).sRn _ _ (Nat.le_of_ble_eq_true rfl)).nw 20 400).sRn _ _ (Nat.le_of_ble_eq_true rfl)).nw 20 8).sRn _ _ (Nat.le_of_ble_eq_true rfl)).nw 20 8).sRn _ _ (Nat.le_of_ble_eq_true rfl)).nw 23 512).sRn _ _ (Nat.le_of_ble_eq_true rfl)).nw 22 512).sRn _ _ (Nat.le_of_ble_eq_true rfl)).nw 23 64).sRn _ _ (Nat.le_of_ble_eq_true rfl)).nw 22 64).sRn _ _ (Nat.le_of_ble_eq_true rfl)
set_option maxRecDepth 20000 in
theorem mwK_108 (gK : Nat → Nat × Nat) (gi : Nat → Nat → Int32) (gl : Nat → Nat → Int64) (gd : Nat → Nat → UInt64) (gr : Nat → Nat → Option Nat) (gs : Nat) : wK (mw86 gK gi gl gd gr gs) 108 = kfx 108 := rfl
set_option maxRecDepth 20000 in
theorem mwK_109 (gK : Nat → Nat × Nat) (gi : Nat → Nat → Int32) (gl : Nat → Nat → Int64) (gd : Nat → Nat → UInt64) (gr : Nat → Nat → Option Nat) (gs : Nat) : wK (mw86 gK gi gl gd gr gs) 109 = kfx 109 := rfl
set_option maxRecDepth 20000 in
theorem mwK_110 (gK : Nat → Nat × Nat) (gi : Nat → Nat → Int32) (gl : Nat → Nat → Int64) (gd : Nat → Nat → UInt64) (gr : Nat → Nat → Option Nat) (gs : Nat) : wK (mw86 gK gi gl gd gr gs) 110 = kfx 110 := rfl
set_option maxRecDepth 20000 in
theorem mwK_111 (gK : Nat → Nat × Nat) (gi : Nat → Nat → Int32) (gl : Nat → Nat → Int64) (gd : Nat → Nat → UInt64) (gr : Nat → Nat → Option Nat) (gs : Nat) : wK (mw86 gK gi gl gd gr gs) 111 = kfx 111 := rfl
set_option maxRecDepth 20000 in
theorem mwK_112 (gK : Nat → Nat × Nat) (gi : Nat → Nat → Int32) (gl : Nat → Nat → Int64) (gd : Nat → Nat → UInt64) (gr : Nat → Nat → Option Nat) (gs : Nat) : wK (mw86 gK gi gl gd gr gs) 112 = kfx 112 := rfl
set_option maxRecDepth 20000 in
theorem mwK_113 (gK : Nat → Nat × Nat) (gi : Nat → Nat → Int32) (gl : Nat → Nat → Int64) (gd : Nat → Nat → UInt64) (gr : Nat → Nat → Option Nat) (gs : Nat) : wK (mw86 gK gi gl gd gr gs) 113 = kfx 113 := rfl
set_option maxRecDepth 20000 in
theorem mwK_114 (gK : Nat → Nat × Nat) (gi : Nat → Nat → Int32) (gl : Nat → Nat → Int64) (gd : Nat → Nat → UInt64) (gr : Nat → Nat → Option Nat) (gs : Nat) : wK (mw86 gK gi gl gd gr gs) 114 = kfx 114 := rfl
set_option maxRecDepth 20000 in
theorem mwK_115 (gK : Nat → Nat × Nat) (gi : Nat → Nat → Int32) (gl : Nat → Nat → Int64) (gd : Nat → Nat → UInt64) (gr : Nat → Nat → Option Nat) (gs : Nat) : wK (mw86 gK gi gl gd gr gs) 115 = kfx 115 := rfl
set_option maxRecDepth 20000 in
theorem mwK_116 (gK : Nat → Nat × Nat) (gi : Nat → Nat → Int32) (gl : Nat → Nat → Int64) (gd : Nat → Nat → UInt64) (gr : Nat → Nat → Option Nat) (gs : Nat) : wK (mw86 gK gi gl gd gr gs) 116 = kfx 116 := rfl
set_option maxRecDepth 20000 in
theorem mwK_117 (gK : Nat → Nat × Nat) (gi : Nat → Nat → Int32) (gl : Nat → Nat → Int64) (gd : Nat → Nat → UInt64) (gr : Nat → Nat → Option Nat) (gs : Nat) : wK (mw86 gK gi gl gd gr gs) 117 = kfx 117 := rfl
set_option maxRecDepth 20000 in
theorem mwK_118 (gK : Nat → Nat × Nat) (gi : Nat → Nat → Int32) (gl : Nat → Nat → Int64) (gd : Nat → Nat → UInt64) (gr : Nat → Nat → Option Nat) (gs : Nat) : wK (mw86 gK gi gl gd gr gs) 118 = kfx 118 := rfl
set_option maxRecDepth 20000 in
theorem mwK_119 (gK : Nat → Nat × Nat) (gi : Nat → Nat → Int32) (gl : Nat → Nat → Int64) (gd : Nat → Nat → UInt64) (gr : Nat → Nat → Option Nat) (gs : Nat) : wK (mw86 gK gi gl gd gr gs) 119 = kfx 119 := rfl
set_option maxRecDepth 20000 in
theorem mwK_120 (gK : Nat → Nat × Nat) (gi : Nat → Nat → Int32) (gl : Nat → Nat → Int64) (gd : Nat → Nat → UInt64) (gr : Nat → Nat → Option Nat) (gs : Nat) : wK (mw86 gK gi gl gd gr gs) 120 = kfx 120 := rfl
set_option maxRecDepth 20000 in
theorem mwK_121 (gK : Nat → Nat × Nat) (gi : Nat → Nat → Int32) (gl : Nat → Nat → Int64) (gd : Nat → Nat → UInt64) (gr : Nat → Nat → Option Nat) (gs : Nat) : wK (mw86 gK gi gl gd gr gs) 121 = kfx 121 := rfl
set_option maxRecDepth 20000 in
theorem mwK_122 (gK : Nat → Nat × Nat) (gi : Nat → Nat → Int32) (gl : Nat → Nat → Int64) (gd : Nat → Nat → UInt64) (gr : Nat → Nat → Option Nat) (gs : Nat) : wK (mw86 gK gi gl gd gr gs) 122 = kfx 122 := rfl
set_option maxRecDepth 20000 in
theorem mwK_123 (gK : Nat → Nat × Nat) (gi : Nat → Nat → Int32) (gl : Nat → Nat → Int64) (gd : Nat → Nat → UInt64) (gr : Nat → Nat → Option Nat) (gs : Nat) : wK (mw86 gK gi gl gd gr gs) 123 = kfx 123 := rfl
set_option maxRecDepth 20000 in
theorem mwK_124 (gK : Nat → Nat × Nat) (gi : Nat → Nat → Int32) (gl : Nat → Nat → Int64) (gd : Nat → Nat → UInt64) (gr : Nat → Nat → Option Nat) (gs : Nat) : wK (mw86 gK gi gl gd gr gs) 124 = kfx 124 := rfl
set_option maxRecDepth 20000 in
theorem mwK_125 (gK : Nat → Nat × Nat) (gi : Nat → Nat → Int32) (gl : Nat → Nat → Int64) (gd : Nat → Nat → UInt64) (gr : Nat → Nat → Option Nat) (gs : Nat) : wK (mw86 gK gi gl gd gr gs) 125 = kfx 125 := rfl
set_option maxRecDepth 20000 in
theorem mwK_126 (gK : Nat → Nat × Nat) (gi : Nat → Nat → Int32) (gl : Nat → Nat → Int64) (gd : Nat → Nat → UInt64) (gr : Nat → Nat → Option Nat) (gs : Nat) : wK (mw86 gK gi gl gd gr gs) 126 = kfx 126 := rfl
set_option maxRecDepth 20000 in
theorem mwK_127 (gK : Nat → Nat × Nat) (gi : Nat → Nat → Int32) (gl : Nat → Nat → Int64) (gd : Nat → Nat → UInt64) (gr : Nat → Nat → Option Nat) (gs : Nat) : wK (mw86 gK gi gl gd gr gs) 127 = kfx 127 := rfl
set_option maxRecDepth 20000 in
theorem mwK_128 (gK : Nat → Nat × Nat) (gi : Nat → Nat → Int32) (gl : Nat → Nat → Int64) (gd : Nat → Nat → UInt64) (gr : Nat → Nat → Option Nat) (gs : Nat) : wK (mw86 gK gi gl gd gr gs) 128 = kfx 128 := rfl
set_option maxRecDepth 20000 in
theorem mwK_129 (gK : Nat → Nat × Nat) (gi : Nat → Nat → Int32) (gl : Nat → Nat → Int64) (gd : Nat → Nat → UInt64) (gr : Nat → Nat → Option Nat) (gs : Nat) : wK (mw86 gK gi gl gd gr gs) 129 = kfx 129 := rfl
set_option maxRecDepth 20000 in
theorem mwK_130 (gK : Nat → Nat × Nat) (gi : Nat → Nat → Int32) (gl : Nat → Nat → Int64) (gd : Nat → Nat → UInt64) (gr : Nat → Nat → Option Nat) (gs : Nat) : wK (mw86 gK gi gl gd gr gs) 130 = kfx 130 := rfl
set_option maxRecDepth 20000 in
theorem mwK_131 (gK : Nat → Nat × Nat) (gi : Nat → Nat → Int32) (gl : Nat → Nat → Int64) (gd : Nat → Nat → UInt64) (gr : Nat → Nat → Option Nat) (gs : Nat) : wK (mw86 gK gi gl gd gr gs) 131 = kfx 131 := rfl
set_option maxRecDepth 20000 in
theorem mwK_132 (gK : Nat → Nat × Nat) (gi : Nat → Nat → Int32) (gl : Nat → Nat → Int64) (gd : Nat → Nat → UInt64) (gr : Nat → Nat → Option Nat) (gs : Nat) : wK (mw86 gK gi gl gd gr gs) 132 = kfx 132 := rfl
set_option maxRecDepth 20000 in
theorem mwK_133 (gK : Nat → Nat × Nat) (gi : Nat → Nat → Int32) (gl : Nat → Nat → Int64) (gd : Nat → Nat → UInt64) (gr : Nat → Nat → Option Nat) (gs : Nat) : wK (mw86 gK gi gl gd gr gs) 133 = kfx 133 := rfl
set_option maxRecDepth 20000 in
theorem mwK_134 (gK : Nat → Nat × Nat) (gi : Nat → Nat → Int32) (gl : Nat → Nat → Int64) (gd : Nat → Nat → UInt64) (gr : Nat → Nat → Option Nat) (gs : Nat) : wK (mw86 gK gi gl gd gr gs) 134 = kfx 134 := rfl
set_option maxRecDepth 20000 in
theorem mwK_135 (gK : Nat → Nat × Nat) (gi : Nat → Nat → Int32) (gl : Nat → Nat → Int64) (gd : Nat → Nat → UInt64) (gr : Nat → Nat → Option Nat) (gs : Nat) : wK (mw86 gK gi gl gd gr gs) 135 = kfx 135 := rfl
set_option maxRecDepth 20000 in
theorem mwK_136 (gK : Nat → Nat × Nat) (gi : Nat → Nat → Int32) (gl : Nat → Nat → Int64) (gd : Nat → Nat → UInt64) (gr : Nat → Nat → Option Nat) (gs : Nat) : wK (mw86 gK gi gl gd gr gs) 136 = kfx 136 := rfl
set_option maxRecDepth 20000 in
theorem mwK_137 (gK : Nat → Nat × Nat) (gi : Nat → Nat → Int32) (gl : Nat → Nat → Int64) (gd : Nat → Nat → UInt64) (gr : Nat → Nat → Option Nat) (gs : Nat) : wK (mw86 gK gi gl gd gr gs) 137 = kfx 137 := rfl
set_option maxRecDepth 20000 in
theorem mwK_138 (gK : Nat → Nat × Nat) (gi : Nat → Nat → Int32) (gl : Nat → Nat → Int64) (gd : Nat → Nat → UInt64) (gr : Nat → Nat → Option Nat) (gs : Nat) : wK (mw86 gK gi gl gd gr gs) 138 = kfx 138 := rfl
set_option maxRecDepth 20000 in
theorem mwK_139 (gK : Nat → Nat × Nat) (gi : Nat → Nat → Int32) (gl : Nat → Nat → Int64) (gd : Nat → Nat → UInt64) (gr : Nat → Nat → Option Nat) (gs : Nat) : wK (mw86 gK gi gl gd gr gs) 139 = kfx 139 := rfl
set_option maxRecDepth 20000 in
theorem mwK_140 (gK : Nat → Nat × Nat) (gi : Nat → Nat → Int32) (gl : Nat → Nat → Int64) (gd : Nat → Nat → UInt64) (gr : Nat → Nat → Option Nat) (gs : Nat) : wK (mw86 gK gi gl gd gr gs) 140 = kfx 140 := rfl
set_option maxRecDepth 20000 in
theorem mwK_141 (gK : Nat → Nat × Nat) (gi : Nat → Nat → Int32) (gl : Nat → Nat → Int64) (gd : Nat → Nat → UInt64) (gr : Nat → Nat → Option Nat) (gs : Nat) : wK (mw86 gK gi gl gd gr gs) 141 = kfx 141 := rfl
set_option maxRecDepth 20000 in
theorem mwK_142 (gK : Nat → Nat × Nat) (gi : Nat → Nat → Int32) (gl : Nat → Nat → Int64) (gd : Nat → Nat → UInt64) (gr : Nat → Nat → Option Nat) (gs : Nat) : wK (mw86 gK gi gl gd gr gs) 142 = kfx 142 := rfl
set_option maxRecDepth 20000 in
theorem mwK_143 (gK : Nat → Nat × Nat) (gi : Nat → Nat → Int32) (gl : Nat → Nat → Int64) (gd : Nat → Nat → UInt64) (gr : Nat → Nat → Option Nat) (gs : Nat) : wK (mw86 gK gi gl gd gr gs) 143 = kfx 143 := rfl
set_option maxRecDepth 20000 in
theorem mwK_144 (gK : Nat → Nat × Nat) (gi : Nat → Nat → Int32) (gl : Nat → Nat → Int64) (gd : Nat → Nat → UInt64) (gr : Nat → Nat → Option Nat) (gs : Nat) : wK (mw86 gK gi gl gd gr gs) 144 = kfx 144 := rfl
set_option maxRecDepth 20000 in
theorem mwK_145 (gK : Nat → Nat × Nat) (gi : Nat → Nat → Int32) (gl : Nat → Nat → Int64) (gd : Nat → Nat → UInt64) (gr : Nat → Nat → Option Nat) (gs : Nat) : wK (mw86 gK gi gl gd gr gs) 145 = kfx 145 := rfl
set_option maxRecDepth 20000 in
theorem mwK_146 (gK : Nat → Nat × Nat) (gi : Nat → Nat → Int32) (gl : Nat → Nat → Int64) (gd : Nat → Nat → UInt64) (gr : Nat → Nat → Option Nat) (gs : Nat) : wK (mw86 gK gi gl gd gr gs) 146 = kfx 146 := rfl
set_option maxRecDepth 20000 in
theorem mwK_147 (gK : Nat → Nat × Nat) (gi : Nat → Nat → Int32) (gl : Nat → Nat → Int64) (gd : Nat → Nat → UInt64) (gr : Nat → Nat → Option Nat) (gs : Nat) : wK (mw86 gK gi gl gd gr gs) 147 = kfx 147 := rfl
set_option maxRecDepth 20000 in
theorem mwK_148 (gK : Nat → Nat × Nat) (gi : Nat → Nat → Int32) (gl : Nat → Nat → Int64) (gd : Nat → Nat → UInt64) (gr : Nat → Nat → Option Nat) (gs : Nat) : wK (mw86 gK gi gl gd gr gs) 148 = kfx 148 := rfl
set_option maxRecDepth 20000 in
theorem mwK_149 (gK : Nat → Nat × Nat) (gi : Nat → Nat → Int32) (gl : Nat → Nat → Int64) (gd : Nat → Nat → UInt64) (gr : Nat → Nat → Option Nat) (gs : Nat) : wK (mw86 gK gi gl gd gr gs) 149 = kfx 149 := rfl
set_option maxRecDepth 20000 in
theorem mwK_150 (gK : Nat → Nat × Nat) (gi : Nat → Nat → Int32) (gl : Nat → Nat → Int64) (gd : Nat → Nat → UInt64) (gr : Nat → Nat → Option Nat) (gs : Nat) : wK (mw86 gK gi gl gd gr gs) 150 = kfx 150 := rfl
set_option maxRecDepth 20000 in
theorem mwR_108_1 (gK : Nat → Nat × Nat) (gi : Nat → Nat → Int32) (gl : Nat → Nat → Int64) (gd : Nat → Nat → UInt64) (gr : Nat → Nat → Option Nat) (gs : Nat) : gR (mw86 gK gi gl gd gr gs) 108 1 = some 109 := rfl
set_option maxRecDepth 20000 in
theorem mwR_108_2 (gK : Nat → Nat × Nat) (gi : Nat → Nat → Int32) (gl : Nat → Nat → Int64) (gd : Nat → Nat → UInt64) (gr : Nat → Nat → Option Nat) (gs : Nat) : gR (mw86 gK gi gl gd gr gs) 108 2 = some 110 := rfl
set_option maxRecDepth 20000 in
theorem mwR_108_3 (gK : Nat → Nat × Nat) (gi : Nat → Nat → Int32) (gl : Nat → Nat → Int64) (gd : Nat → Nat → UInt64) (gr : Nat → Nat → Option Nat) (gs : Nat) : gR (mw86 gK gi gl gd gr gs) 108 3 = some 111 := rfl
set_option maxRecDepth 20000 in
theorem mwR_108_4 (gK : Nat → Nat × Nat) (gi : Nat → Nat → Int32) (gl : Nat → Nat → Int64) (gd : Nat → Nat → UInt64) (gr : Nat → Nat → Option Nat) (gs : Nat) : gR (mw86 gK gi gl gd gr gs) 108 4 = some 112 := rfl
set_option maxRecDepth 20000 in
theorem mwR_108_12 (gK : Nat → Nat × Nat) (gi : Nat → Nat → Int32) (gl : Nat → Nat → Int64) (gd : Nat → Nat → UInt64) (gr : Nat → Nat → Option Nat) (gs : Nat) : gR (mw86 gK gi gl gd gr gs) 108 12 = some 113 := rfl
set_option maxRecDepth 20000 in
theorem mwR_108_13 (gK : Nat → Nat × Nat) (gi : Nat → Nat → Int32) (gl : Nat → Nat → Int64) (gd : Nat → Nat → UInt64) (gr : Nat → Nat → Option Nat) (gs : Nat) : gR (mw86 gK gi gl gd gr gs) 108 13 = some 114 := rfl
set_option maxRecDepth 20000 in
theorem mwR_108_14 (gK : Nat → Nat × Nat) (gi : Nat → Nat → Int32) (gl : Nat → Nat → Int64) (gd : Nat → Nat → UInt64) (gr : Nat → Nat → Option Nat) (gs : Nat) : gR (mw86 gK gi gl gd gr gs) 108 14 = some 115 := rfl
set_option maxRecDepth 20000 in
theorem mwR_108_15 (gK : Nat → Nat × Nat) (gi : Nat → Nat → Int32) (gl : Nat → Nat → Int64) (gd : Nat → Nat → UInt64) (gr : Nat → Nat → Option Nat) (gs : Nat) : gR (mw86 gK gi gl gd gr gs) 108 15 = some 116 := rfl
set_option maxRecDepth 20000 in
theorem mwR_108_16 (gK : Nat → Nat × Nat) (gi : Nat → Nat → Int32) (gl : Nat → Nat → Int64) (gd : Nat → Nat → UInt64) (gr : Nat → Nat → Option Nat) (gs : Nat) : gR (mw86 gK gi gl gd gr gs) 108 16 = some 117 := rfl
set_option maxRecDepth 20000 in
theorem mwR_108_17 (gK : Nat → Nat × Nat) (gi : Nat → Nat → Int32) (gl : Nat → Nat → Int64) (gd : Nat → Nat → UInt64) (gr : Nat → Nat → Option Nat) (gs : Nat) : gR (mw86 gK gi gl gd gr gs) 108 17 = some 118 := rfl
set_option maxRecDepth 20000 in
theorem mwR_108_18 (gK : Nat → Nat × Nat) (gi : Nat → Nat → Int32) (gl : Nat → Nat → Int64) (gd : Nat → Nat → UInt64) (gr : Nat → Nat → Option Nat) (gs : Nat) : gR (mw86 gK gi gl gd gr gs) 108 18 = some 119 := rfl
set_option maxRecDepth 20000 in
theorem mwR_108_19 (gK : Nat → Nat × Nat) (gi : Nat → Nat → Int32) (gl : Nat → Nat → Int64) (gd : Nat → Nat → UInt64) (gr : Nat → Nat → Option Nat) (gs : Nat) : gR (mw86 gK gi gl gd gr gs) 108 19 = some 120 := rfl
set_option maxRecDepth 20000 in
theorem mwR_108_21 (gK : Nat → Nat × Nat) (gi : Nat → Nat → Int32) (gl : Nat → Nat → Int64) (gd : Nat → Nat → UInt64) (gr : Nat → Nat → Option Nat) (gs : Nat) : gR (mw86 gK gi gl gd gr gs) 108 21 = some 121 := rfl
set_option maxRecDepth 20000 in
theorem mwR_108_22 (gK : Nat → Nat × Nat) (gi : Nat → Nat → Int32) (gl : Nat → Nat → Int64) (gd : Nat → Nat → UInt64) (gr : Nat → Nat → Option Nat) (gs : Nat) : gR (mw86 gK gi gl gd gr gs) 108 22 = some 122 := rfl
set_option maxRecDepth 20000 in
theorem mwR_108_23 (gK : Nat → Nat × Nat) (gi : Nat → Nat → Int32) (gl : Nat → Nat → Int64) (gd : Nat → Nat → UInt64) (gr : Nat → Nat → Option Nat) (gs : Nat) : gR (mw86 gK gi gl gd gr gs) 108 23 = some 123 := rfl
set_option maxRecDepth 20000 in
theorem mwR_108_24 (gK : Nat → Nat × Nat) (gi : Nat → Nat → Int32) (gl : Nat → Nat → Int64) (gd : Nat → Nat → UInt64) (gr : Nat → Nat → Option Nat) (gs : Nat) : gR (mw86 gK gi gl gd gr gs) 108 24 = some 124 := rfl
set_option maxRecDepth 20000 in
theorem mwR_108_25 (gK : Nat → Nat × Nat) (gi : Nat → Nat → Int32) (gl : Nat → Nat → Int64) (gd : Nat → Nat → UInt64) (gr : Nat → Nat → Option Nat) (gs : Nat) : gR (mw86 gK gi gl gd gr gs) 108 25 = some 125 := rfl
set_option maxRecDepth 20000 in
theorem mwR_108_26 (gK : Nat → Nat × Nat) (gi : Nat → Nat → Int32) (gl : Nat → Nat → Int64) (gd : Nat → Nat → UInt64) (gr : Nat → Nat → Option Nat) (gs : Nat) : gR (mw86 gK gi gl gd gr gs) 108 26 = some 126 := rfl
set_option maxRecDepth 20000 in
theorem mwR_108_31 (gK : Nat → Nat × Nat) (gi : Nat → Nat → Int32) (gl : Nat → Nat → Int64) (gd : Nat → Nat → UInt64) (gr : Nat → Nat → Option Nat) (gs : Nat) : gR (mw86 gK gi gl gd gr gs) 108 31 = some 127 := rfl
set_option maxRecDepth 20000 in
theorem mwR_108_32 (gK : Nat → Nat × Nat) (gi : Nat → Nat → Int32) (gl : Nat → Nat → Int64) (gd : Nat → Nat → UInt64) (gr : Nat → Nat → Option Nat) (gs : Nat) : gR (mw86 gK gi gl gd gr gs) 108 32 = some 128 := rfl
set_option maxRecDepth 20000 in
theorem mwR_108_33 (gK : Nat → Nat × Nat) (gi : Nat → Nat → Int32) (gl : Nat → Nat → Int64) (gd : Nat → Nat → UInt64) (gr : Nat → Nat → Option Nat) (gs : Nat) : gR (mw86 gK gi gl gd gr gs) 108 33 = some 129 := rfl
set_option maxRecDepth 20000 in
theorem mwR_108_34 (gK : Nat → Nat × Nat) (gi : Nat → Nat → Int32) (gl : Nat → Nat → Int64) (gd : Nat → Nat → UInt64) (gr : Nat → Nat → Option Nat) (gs : Nat) : gR (mw86 gK gi gl gd gr gs) 108 34 = some 130 := rfl
set_option maxRecDepth 20000 in
theorem mwR_108_35 (gK : Nat → Nat × Nat) (gi : Nat → Nat → Int32) (gl : Nat → Nat → Int64) (gd : Nat → Nat → UInt64) (gr : Nat → Nat → Option Nat) (gs : Nat) : gR (mw86 gK gi gl gd gr gs) 108 35 = some 131 := rfl
set_option maxRecDepth 20000 in
theorem mwR_108_37 (gK : Nat → Nat × Nat) (gi : Nat → Nat → Int32) (gl : Nat → Nat → Int64) (gd : Nat → Nat → UInt64) (gr : Nat → Nat → Option Nat) (gs : Nat) : gR (mw86 gK gi gl gd gr gs) 108 37 = some 132 := rfl
set_option maxRecDepth 20000 in
theorem mwR_108_38 (gK : Nat → Nat × Nat) (gi : Nat → Nat → Int32) (gl : Nat → Nat → Int64) (gd : Nat → Nat → UInt64) (gr : Nat → Nat → Option Nat) (gs : Nat) : gR (mw86 gK gi gl gd gr gs) 108 38 = some 133 := rfl
set_option maxRecDepth 20000 in
theorem mwR_108_39 (gK : Nat → Nat × Nat) (gi : Nat → Nat → Int32) (gl : Nat → Nat → Int64) (gd : Nat → Nat → UInt64) (gr : Nat → Nat → Option Nat) (gs : Nat) : gR (mw86 gK gi gl gd gr gs) 108 39 = some 134 := rfl
set_option maxRecDepth 20000 in
theorem mwR_108_42 (gK : Nat → Nat × Nat) (gi : Nat → Nat → Int32) (gl : Nat → Nat → Int64) (gd : Nat → Nat → UInt64) (gr : Nat → Nat → Option Nat) (gs : Nat) : gR (mw86 gK gi gl gd gr gs) 108 42 = some 135 := rfl
set_option maxRecDepth 20000 in
theorem mwR_108_43 (gK : Nat → Nat × Nat) (gi : Nat → Nat → Int32) (gl : Nat → Nat → Int64) (gd : Nat → Nat → UInt64) (gr : Nat → Nat → Option Nat) (gs : Nat) : gR (mw86 gK gi gl gd gr gs) 108 43 = some 136 := rfl
set_option maxRecDepth 20000 in
theorem mwR_108_44 (gK : Nat → Nat × Nat) (gi : Nat → Nat → Int32) (gl : Nat → Nat → Int64) (gd : Nat → Nat → UInt64) (gr : Nat → Nat → Option Nat) (gs : Nat) : gR (mw86 gK gi gl gd gr gs) 108 44 = some 137 := rfl
set_option maxRecDepth 20000 in
theorem mwR_108_45 (gK : Nat → Nat × Nat) (gi : Nat → Nat → Int32) (gl : Nat → Nat → Int64) (gd : Nat → Nat → UInt64) (gr : Nat → Nat → Option Nat) (gs : Nat) : gR (mw86 gK gi gl gd gr gs) 108 45 = some 138 := rfl
set_option maxRecDepth 20000 in
theorem mwR_108_46 (gK : Nat → Nat × Nat) (gi : Nat → Nat → Int32) (gl : Nat → Nat → Int64) (gd : Nat → Nat → UInt64) (gr : Nat → Nat → Option Nat) (gs : Nat) : gR (mw86 gK gi gl gd gr gs) 108 46 = some 139 := rfl
set_option maxRecDepth 20000 in
theorem mwR_108_53 (gK : Nat → Nat × Nat) (gi : Nat → Nat → Int32) (gl : Nat → Nat → Int64) (gd : Nat → Nat → UInt64) (gr : Nat → Nat → Option Nat) (gs : Nat) : gR (mw86 gK gi gl gd gr gs) 108 53 = some 140 := rfl
set_option maxRecDepth 20000 in
theorem mwR_108_55 (gK : Nat → Nat × Nat) (gi : Nat → Nat → Int32) (gl : Nat → Nat → Int64) (gd : Nat → Nat → UInt64) (gr : Nat → Nat → Option Nat) (gs : Nat) : gR (mw86 gK gi gl gd gr gs) 108 55 = some 141 := rfl
set_option maxRecDepth 20000 in
theorem mwR_108_56 (gK : Nat → Nat × Nat) (gi : Nat → Nat → Int32) (gl : Nat → Nat → Int64) (gd : Nat → Nat → UInt64) (gr : Nat → Nat → Option Nat) (gs : Nat) : gR (mw86 gK gi gl gd gr gs) 108 56 = some 142 := rfl
set_option maxRecDepth 20000 in
theorem mwR_108_57 (gK : Nat → Nat × Nat) (gi : Nat → Nat → Int32) (gl : Nat → Nat → Int64) (gd : Nat → Nat → UInt64) (gr : Nat → Nat → Option Nat) (gs : Nat) : gR (mw86 gK gi gl gd gr gs) 108 57 = some 143 := rfl
set_option maxRecDepth 20000 in
theorem mwR_108_59 (gK : Nat → Nat × Nat) (gi : Nat → Nat → Int32) (gl : Nat → Nat → Int64) (gd : Nat → Nat → UInt64) (gr : Nat → Nat → Option Nat) (gs : Nat) : gR (mw86 gK gi gl gd gr gs) 108 59 = some 144 := rfl
set_option maxRecDepth 20000 in
theorem mwR_108_62 (gK : Nat → Nat × Nat) (gi : Nat → Nat → Int32) (gl : Nat → Nat → Int64) (gd : Nat → Nat → UInt64) (gr : Nat → Nat → Option Nat) (gs : Nat) : gR (mw86 gK gi gl gd gr gs) 108 62 = some 145 := rfl
set_option maxRecDepth 20000 in
theorem mwR_108_63 (gK : Nat → Nat × Nat) (gi : Nat → Nat → Int32) (gl : Nat → Nat → Int64) (gd : Nat → Nat → UInt64) (gr : Nat → Nat → Option Nat) (gs : Nat) : gR (mw86 gK gi gl gd gr gs) 108 63 = some 146 := rfl
set_option maxRecDepth 20000 in
theorem mwR_108_64 (gK : Nat → Nat × Nat) (gi : Nat → Nat → Int32) (gl : Nat → Nat → Int64) (gd : Nat → Nat → UInt64) (gr : Nat → Nat → Option Nat) (gs : Nat) : gR (mw86 gK gi gl gd gr gs) 108 64 = some 147 := rfl
set_option maxRecDepth 20000 in
theorem mwR_108_65 (gK : Nat → Nat × Nat) (gi : Nat → Nat → Int32) (gl : Nat → Nat → Int64) (gd : Nat → Nat → UInt64) (gr : Nat → Nat → Option Nat) (gs : Nat) : gR (mw86 gK gi gl gd gr gs) 108 65 = some 148 := rfl
set_option maxRecDepth 20000 in
theorem mwR_108_66 (gK : Nat → Nat × Nat) (gi : Nat → Nat → Int32) (gl : Nat → Nat → Int64) (gd : Nat → Nat → UInt64) (gr : Nat → Nat → Option Nat) (gs : Nat) : gR (mw86 gK gi gl gd gr gs) 108 66 = some 149 := rfl
set_option maxRecDepth 20000 in
theorem mwR_108_67 (gK : Nat → Nat × Nat) (gi : Nat → Nat → Int32) (gl : Nat → Nat → Int64) (gd : Nat → Nat → UInt64) (gr : Nat → Nat → Option Nat) (gs : Nat) : gR (mw86 gK gi gl gd gr gs) 108 67 = some 150 := rfl
