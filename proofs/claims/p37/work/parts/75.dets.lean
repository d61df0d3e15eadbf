/-! ===== determinants ===== -/
def d2 (a b c d : Int) : Int := a * d - b * c
def d3 (a b c d e f g h i : Int) : Int := a * d2 e f h i - b * d2 d f g i + c * d2 d e g h
def d4 (x00 x01 x02 x03 x10 x11 x12 x13 x20 x21 x22 x23 x30 x31 x32 x33 : Int) : Int := x00 * d3 x11 x12 x13 x21 x22 x23 x31 x32 x33 - x01 * d3 x10 x12 x13 x20 x22 x23 x30 x32 x33 + x02 * d3 x10 x11 x13 x20 x21 x23 x30 x31 x33 - x03 * d3 x10 x11 x12 x20 x21 x22 x30 x31 x32
def d5 (x00 x01 x02 x03 x04 x10 x11 x12 x13 x14 x20 x21 x22 x23 x24 x30 x31 x32 x33 x34 x40 x41 x42 x43 x44 : Int) : Int := x00 * d4 x11 x12 x13 x14 x21 x22 x23 x24 x31 x32 x33 x34 x41 x42 x43 x44 - x01 * d4 x10 x12 x13 x14 x20 x22 x23 x24 x30 x32 x33 x34 x40 x42 x43 x44 + x02 * d4 x10 x11 x13 x14 x20 x21 x23 x24 x30 x31 x33 x34 x40 x41 x43 x44 - x03 * d4 x10 x11 x12 x14 x20 x21 x22 x24 x30 x31 x32 x34 x40 x41 x42 x44 + x04 * d4 x10 x11 x12 x13 x20 x21 x22 x23 x30 x31 x32 x33 x40 x41 x42 x43
theorem syl3 (x00 x01 x02 x10 x11 x12 x20 x21 x22 : Int) : d2 x00 x02 x20 x22 * d2 x00 x01 x10 x11 - d2 x00 x01 x20 x21 * d2 x00 x02 x10 x12 = d3 x00 x01 x02 x10 x11 x12 x20 x21 x22 * x00 := by
  unfold d3 d2
  grind
theorem syl4 (x00 x01 x02 x03 x10 x11 x12 x13 x20 x21 x22 x23 x30 x31 x32 x33 : Int) : d3 x00 x01 x03 x10 x11 x13 x30 x31 x33 * d3 x00 x01 x02 x10 x11 x12 x20 x21 x22 - d3 x00 x01 x02 x10 x11 x12 x30 x31 x32 * d3 x00 x01 x03 x10 x11 x13 x20 x21 x23 = d4 x00 x01 x02 x03 x10 x11 x12 x13 x20 x21 x22 x23 x30 x31 x32 x33 * d2 x00 x01 x10 x11 := by
  unfold d4 d3 d2
  grind
theorem plu01 (x00 x01 x02 x03 x04 x10 x11 x12 x13 x14 x20 x21 x22 x23 x24 : Int) : d3 x04 x01 x02 x14 x11 x12 x24 x21 x22 * d3 x00 x03 x02 x10 x13 x12 x20 x23 x22 - d3 x03 x01 x02 x13 x11 x12 x23 x21 x22 * d3 x00 x04 x02 x10 x14 x12 x20 x24 x22 = d3 x00 x01 x02 x10 x11 x12 x20 x21 x22 * d3 x04 x03 x02 x14 x13 x12 x24 x23 x22 := by
  unfold d3 d2
  grind
theorem plu02 (x00 x01 x02 x03 x04 x10 x11 x12 x13 x14 x20 x21 x22 x23 x24 : Int) : d3 x04 x01 x02 x14 x11 x12 x24 x21 x22 * d3 x00 x01 x03 x10 x11 x13 x20 x21 x23 - d3 x03 x01 x02 x13 x11 x12 x23 x21 x22 * d3 x00 x01 x04 x10 x11 x14 x20 x21 x24 = d3 x00 x01 x02 x10 x11 x12 x20 x21 x22 * d3 x04 x01 x03 x14 x11 x13 x24 x21 x23 := by
  unfold d3 d2
  grind
theorem plu12 (x00 x01 x02 x03 x04 x10 x11 x12 x13 x14 x20 x21 x22 x23 x24 : Int) : d3 x00 x04 x02 x10 x14 x12 x20 x24 x22 * d3 x00 x01 x03 x10 x11 x13 x20 x21 x23 - d3 x00 x03 x02 x10 x13 x12 x20 x23 x22 * d3 x00 x01 x04 x10 x11 x14 x20 x21 x24 = d3 x00 x01 x02 x10 x11 x12 x20 x21 x22 * d3 x00 x04 x03 x10 x14 x13 x20 x24 x23 := by
  unfold d3 d2
  grind
theorem bor33 (x00 x01 x02 x03 x10 x11 x12 x13 x20 x21 x22 x23 x30 x31 x32 x33 : Int) : d4 x00 x01 x02 x03 x10 x11 x12 x13 x20 x21 x22 x23 x30 x31 x32 x33 = d3 x00 x01 x02 x10 x11 x12 x20 x21 x22 * x33 - x30 * d3 x03 x01 x02 x13 x11 x12 x23 x21 x22 - x31 * d3 x00 x03 x02 x10 x13 x12 x20 x23 x22 - x32 * d3 x00 x01 x03 x10 x11 x13 x20 x21 x23 := by
  unfold d4 d3 d2
  grind
theorem bor34 (x00 x01 x02 x04 x10 x11 x12 x14 x20 x21 x22 x24 x30 x31 x32 x34 : Int) : d4 x00 x01 x02 x04 x10 x11 x12 x14 x20 x21 x22 x24 x30 x31 x32 x34 = d3 x00 x01 x02 x10 x11 x12 x20 x21 x22 * x34 - x30 * d3 x04 x01 x02 x14 x11 x12 x24 x21 x22 - x31 * d3 x00 x04 x02 x10 x14 x12 x20 x24 x22 - x32 * d3 x00 x01 x04 x10 x11 x14 x20 x21 x24 := by
  unfold d4 d3 d2
  grind
theorem bor43 (x00 x01 x02 x03 x10 x11 x12 x13 x20 x21 x22 x23 x40 x41 x42 x43 : Int) : d4 x00 x01 x02 x03 x10 x11 x12 x13 x20 x21 x22 x23 x40 x41 x42 x43 = d3 x00 x01 x02 x10 x11 x12 x20 x21 x22 * x43 - x40 * d3 x03 x01 x02 x13 x11 x12 x23 x21 x22 - x41 * d3 x00 x03 x02 x10 x13 x12 x20 x23 x22 - x42 * d3 x00 x01 x03 x10 x11 x13 x20 x21 x23 := by
  unfold d4 d3 d2
  grind
theorem bor44 (x00 x01 x02 x04 x10 x11 x12 x14 x20 x21 x22 x24 x40 x41 x42 x44 : Int) : d4 x00 x01 x02 x04 x10 x11 x12 x14 x20 x21 x22 x24 x40 x41 x42 x44 = d3 x00 x01 x02 x10 x11 x12 x20 x21 x22 * x44 - x40 * d3 x04 x01 x02 x14 x11 x12 x24 x21 x22 - x41 * d3 x00 x04 x02 x10 x14 x12 x20 x24 x22 - x42 * d3 x00 x01 x04 x10 x11 x14 x20 x21 x24 := by
  unfold d4 d3 d2
  grind
set_option maxRecDepth 100000 in
set_option maxHeartbeats 4000000 in
theorem ex5 (x00 x01 x02 x03 x04 x10 x11 x12 x13 x14 x20 x21 x22 x23 x24 x30 x31 x32 x33 x34 x40 x41 x42 x43 x44 : Int) : d5 x00 x01 x02 x03 x04 x10 x11 x12 x13 x14 x20 x21 x22 x23 x24 x30 x31 x32 x33 x34 x40 x41 x42 x43 x44 = d3 x00 x01 x02 x10 x11 x12 x20 x21 x22 * (x44 * x33 - x43 * x34) - (x44 * (x30 * d3 x03 x01 x02 x13 x11 x12 x23 x21 x22 + x31 * d3 x00 x03 x02 x10 x13 x12 x20 x23 x22 + x32 * d3 x00 x01 x03 x10 x11 x13 x20 x21 x23) + x33 * (x40 * d3 x04 x01 x02 x14 x11 x12 x24 x21 x22 + x41 * d3 x00 x04 x02 x10 x14 x12 x20 x24 x22 + x42 * d3 x00 x01 x04 x10 x11 x14 x20 x21 x24) - x43 * (x30 * d3 x04 x01 x02 x14 x11 x12 x24 x21 x22 + x31 * d3 x00 x04 x02 x10 x14 x12 x20 x24 x22 + x32 * d3 x00 x01 x04 x10 x11 x14 x20 x21 x24) - x34 * (x40 * d3 x03 x01 x02 x13 x11 x12 x23 x21 x22 + x41 * d3 x00 x03 x02 x10 x13 x12 x20 x23 x22 + x42 * d3 x00 x01 x03 x10 x11 x13 x20 x21 x23)) + ((x40 * x31 - x41 * x30) * d3 x04 x03 x02 x14 x13 x12 x24 x23 x22 + (x40 * x32 - x42 * x30) * d3 x04 x01 x03 x14 x11 x13 x24 x21 x23 + (x41 * x32 - x42 * x31) * d3 x00 x04 x03 x10 x14 x13 x20 x24 x23) := by
  unfold d5 d4 d3 d2
  grind
theorem syl5 (x00 x01 x02 x03 x04 x10 x11 x12 x13 x14 x20 x21 x22 x23 x24 x30 x31 x32 x33 x34 x40 x41 x42 x43 x44 : Int) : d4 x00 x01 x02 x04 x10 x11 x12 x14 x20 x21 x22 x24 x40 x41 x42 x44 * d4 x00 x01 x02 x03 x10 x11 x12 x13 x20 x21 x22 x23 x30 x31 x32 x33 - d4 x00 x01 x02 x03 x10 x11 x12 x13 x20 x21 x22 x23 x40 x41 x42 x43 * d4 x00 x01 x02 x04 x10 x11 x12 x14 x20 x21 x22 x24 x30 x31 x32 x34 = d5 x00 x01 x02 x03 x04 x10 x11 x12 x13 x14 x20 x21 x22 x23 x24 x30 x31 x32 x33 x34 x40 x41 x42 x43 x44 * d3 x00 x01 x02 x10 x11 x12 x20 x21 x22 := by
  rw [ex5, bor44, bor33, bor43, bor34]
  have h01 := plu01 x00 x01 x02 x03 x04 x10 x11 x12 x13 x14 x20 x21 x22 x23 x24
  have h02 := plu02 x00 x01 x02 x03 x04 x10 x11 x12 x13 x14 x20 x21 x22 x23 x24
  have h12 := plu12 x00 x01 x02 x03 x04 x10 x11 x12 x13 x14 x20 x21 x22 x23 x24
  generalize d3 x00 x01 x02 x10 x11 x12 x20 x21 x22 = D at *
  generalize d3 x03 x01 x02 x13 x11 x12 x23 x21 x22 = P03 at *
  generalize d3 x04 x01 x02 x14 x11 x12 x24 x21 x22 = P04 at *
  generalize d3 x00 x03 x02 x10 x13 x12 x20 x23 x22 = P13 at *
  generalize d3 x00 x04 x02 x10 x14 x12 x20 x24 x22 = P14 at *
  generalize d3 x00 x01 x03 x10 x11 x13 x20 x21 x23 = P23 at *
  generalize d3 x00 x01 x04 x10 x11 x14 x20 x21 x24 = P24 at *
  generalize d3 x04 x03 x02 x14 x13 x12 x24 x23 x22 = Q01 at *
  generalize d3 x04 x01 x03 x14 x11 x13 x24 x21 x23 = Q02 at *
  generalize d3 x00 x04 x03 x10 x14 x13 x20 x24 x23 = Q12 at *
  grind

