-- ===== the model, seen through the class's numbers =====
def mN (N : TN) : TN := fun t a b =>
  if t = 19 then (if b = 10 then (if N 23 0 19 = 0 then 1 else N 41 0 a) else N (24 + b) 0 a)
  else if t = 3 then N 34 0 b else if t = 4 then N 35 0 b else if t = 5 then N 36 0 b
  else if t = 8 then N 37 0 a else if t = 9 then N 38 0 (24 * a + b) else if t = 10 then N 39 0 (24 * a + b) else if t = 11 then N 40 0 (24 * a + b)
  else if t = 2 then N 23 0 14 else N t a b
def mW (L : TL) : TL := fun t a b => if t = 20 then L 42 0 (12 * a + b) else if t = 21 then L 43 0 (12 * a + b) else L t a b
