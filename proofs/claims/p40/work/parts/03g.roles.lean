/-! roles -/
def am_tsl : List (Nat × Nat) := [(99, 0), (99, 0), (99, 0), (99, 0), (99, 0), (99, 0), (99, 0), (99, 0), (99, 0), (19, 0), (8, 9), (2, 4), (0, 3), (10, 10), (15, 10), (16, 4), (7, 12), (10, 10), (10, 10), (10, 10), (10, 901), (10, 901), (17, 10), (10, 901), (10, 901), (10, 901), (10, 901), (10, 901), (10, 901), (10, 901), (10, 901), (10, 901), (10, 901), (10, 1024), (10, 1024), (4, 6), (10, 10), (10, 10), (10, 10), (6, 7), (11, 10), (12, 10), (3, 1), (10, 60), (99, 0), (99, 0), (99, 0), (99, 0), (99, 0), (99, 0), (99, 0), (99, 0), (99, 0), (99, 0), (99, 0), (99, 0), (99, 0), (99, 0), (99, 0), (99, 0), (99, 0), (99, 0), (99, 0), (99, 0), (99, 0), (99, 0), (99, 0), (99, 0), (99, 0), (99, 0), (99, 0), (99, 0), (99, 0), (99, 0), (99, 0), (99, 0), (99, 0), (99, 0), (99, 0), (99, 0), (99, 0), (99, 0), (99, 0), (99, 0), (99, 0), (99, 0), (99, 0), (99, 0), (99, 0), (99, 0), (99, 0), (99, 0), (99, 0), (99, 0), (99, 0), (99, 0), (99, 0), (99, 0), (99, 0), (99, 0), (99, 0), (99, 0), (99, 0), (99, 0), (99, 0), (99, 0), (12, 30), (10, 30), (10, 30), (10, 10), (11, 10), (10, 10), (10, 10), (10, 10), (10, 10), (11, 10), (10, 10), (10, 10), (10, 10), (10, 10), (10, 30), (99, 0), (99, 0), (99, 0), (10, 10), (10, 10), (10, 10), (10, 1024), (10, 1024), (10, 9020), (99, 0), (10, 4), (10, 4), (12, 120), (10, 120), (10, 120), (10, 40), (11, 40), (10, 40), (10, 40), (10, 40), (10, 40), (11, 40), (10, 40), (10, 40), (10, 40), (10, 40), (10, 120), (99, 0), (99, 0), (11, 10), (99, 0), (99, 0), (99, 0), (10, 10), (10, 60), (99, 0), (99, 0), (99, 0), (99, 0), (13, 1)]
/-- what a role from 4096 on is: by its rest mod 4096 (3900 + n, 3911, 3912: the law's own rows, 200 + 10 e + i: fact i of film e, 300 + 10 e + i its syllables, 400 + e .. the films of editions, 1: a sound, 2 to 5: rows of references) -/
def am_tl (q r : Nat) : Nat × Nat :=
  if r = 4000 then (18, q - 1) else if r = 1 then (5, 3) else if r = 2 then (14, 10) else if r = 3 then (14, 15) else if r = 4 then (14, 22) else if r = 5 then (14, 33) else
  if 200 ≤ r ∧ r < 250 then (1, 10) else if 300 ≤ r ∧ r < 350 then (10, 3) else if 401 ≤ r ∧ r < 405 then (2, 4) else if 411 ≤ r ∧ r < 415 then (0, 3) else if 421 ≤ r ∧ r < 425 then (10, 10) else if 431 ≤ r ∧ r < 435 then (15, 10) else
  if 3900 ≤ r ∧ r < 3910 then (10, r - 3900) else if r = 3911 then (11, 2) else if r = 3912 then (12, 4) else (99, 0)
def am_TY (a : Nat) : Nat × Nat := if a < 4096 then am_tsl.getD a (99, 0) else am_tl (a / 4096) (a % 4096)
theorem TY9 : am_TY 9 = (19, 0) := by decide +kernel
theorem TY10 : am_TY 10 = (8, 9) := by decide +kernel
theorem TY11 : am_TY 11 = (2, 4) := by decide +kernel
theorem TY12 : am_TY 12 = (0, 3) := by decide +kernel
theorem TY13 : am_TY 13 = (10, 10) := by decide +kernel
theorem TY14 : am_TY 14 = (15, 10) := by decide +kernel
theorem TY15 : am_TY 15 = (16, 4) := by decide +kernel
theorem TY16 : am_TY 16 = (7, 12) := by decide +kernel
theorem TY17 : am_TY 17 = (10, 10) := by decide +kernel
theorem TY18 : am_TY 18 = (10, 10) := by decide +kernel
theorem TY19 : am_TY 19 = (10, 10) := by decide +kernel
theorem TY20 : am_TY 20 = (10, 901) := by decide +kernel
theorem TY21 : am_TY 21 = (10, 901) := by decide +kernel
theorem TY22 : am_TY 22 = (17, 10) := by decide +kernel
theorem TY23 : am_TY 23 = (10, 901) := by decide +kernel
theorem TY24 : am_TY 24 = (10, 901) := by decide +kernel
theorem TY25 : am_TY 25 = (10, 901) := by decide +kernel
theorem TY26 : am_TY 26 = (10, 901) := by decide +kernel
theorem TY27 : am_TY 27 = (10, 901) := by decide +kernel
theorem TY28 : am_TY 28 = (10, 901) := by decide +kernel
theorem TY29 : am_TY 29 = (10, 901) := by decide +kernel
theorem TY30 : am_TY 30 = (10, 901) := by decide +kernel
theorem TY31 : am_TY 31 = (10, 901) := by decide +kernel
theorem TY32 : am_TY 32 = (10, 901) := by decide +kernel
theorem TY33 : am_TY 33 = (10, 1024) := by decide +kernel
theorem TY34 : am_TY 34 = (10, 1024) := by decide +kernel
theorem TY35 : am_TY 35 = (4, 6) := by decide +kernel
theorem TY36 : am_TY 36 = (10, 10) := by decide +kernel
theorem TY37 : am_TY 37 = (10, 10) := by decide +kernel
theorem TY38 : am_TY 38 = (10, 10) := by decide +kernel
theorem TY39 : am_TY 39 = (6, 7) := by decide +kernel
theorem TY40 : am_TY 40 = (11, 10) := by decide +kernel
theorem TY41 : am_TY 41 = (12, 10) := by decide +kernel
theorem TY42 : am_TY 42 = (3, 1) := by decide +kernel
theorem TY43 : am_TY 43 = (10, 60) := by decide +kernel
theorem TY100 : am_TY 100 = (99, 0) := by decide +kernel
theorem TY106 : am_TY 106 = (12, 30) := by decide +kernel
theorem TY107 : am_TY 107 = (10, 30) := by decide +kernel
theorem TY108 : am_TY 108 = (10, 30) := by decide +kernel
theorem TY109 : am_TY 109 = (10, 10) := by decide +kernel
theorem TY110 : am_TY 110 = (11, 10) := by decide +kernel
theorem TY111 : am_TY 111 = (10, 10) := by decide +kernel
theorem TY112 : am_TY 112 = (10, 10) := by decide +kernel
theorem TY113 : am_TY 113 = (10, 10) := by decide +kernel
theorem TY114 : am_TY 114 = (10, 10) := by decide +kernel
theorem TY115 : am_TY 115 = (11, 10) := by decide +kernel
theorem TY116 : am_TY 116 = (10, 10) := by decide +kernel
theorem TY117 : am_TY 117 = (10, 10) := by decide +kernel
theorem TY118 : am_TY 118 = (10, 10) := by decide +kernel
theorem TY119 : am_TY 119 = (10, 10) := by decide +kernel
theorem TY120 : am_TY 120 = (10, 30) := by decide +kernel
theorem TY124 : am_TY 124 = (10, 10) := by decide +kernel
theorem TY125 : am_TY 125 = (10, 10) := by decide +kernel
theorem TY126 : am_TY 126 = (10, 10) := by decide +kernel
theorem TY127 : am_TY 127 = (10, 1024) := by decide +kernel
theorem TY128 : am_TY 128 = (10, 1024) := by decide +kernel
theorem TY129 : am_TY 129 = (10, 9020) := by decide +kernel
theorem TY131 : am_TY 131 = (10, 4) := by decide +kernel
theorem TY132 : am_TY 132 = (10, 4) := by decide +kernel
theorem TY133 : am_TY 133 = (12, 120) := by decide +kernel
theorem TY134 : am_TY 134 = (10, 120) := by decide +kernel
theorem TY135 : am_TY 135 = (10, 120) := by decide +kernel
theorem TY136 : am_TY 136 = (10, 40) := by decide +kernel
theorem TY137 : am_TY 137 = (11, 40) := by decide +kernel
theorem TY138 : am_TY 138 = (10, 40) := by decide +kernel
theorem TY139 : am_TY 139 = (10, 40) := by decide +kernel
theorem TY140 : am_TY 140 = (10, 40) := by decide +kernel
theorem TY141 : am_TY 141 = (10, 40) := by decide +kernel
theorem TY142 : am_TY 142 = (11, 40) := by decide +kernel
theorem TY143 : am_TY 143 = (10, 40) := by decide +kernel
theorem TY144 : am_TY 144 = (10, 40) := by decide +kernel
theorem TY145 : am_TY 145 = (10, 40) := by decide +kernel
theorem TY146 : am_TY 146 = (10, 40) := by decide +kernel
theorem TY147 : am_TY 147 = (10, 120) := by decide +kernel
theorem TY150 : am_TY 150 = (11, 10) := by decide +kernel
theorem TY154 : am_TY 154 = (10, 10) := by decide +kernel
theorem TY155 : am_TY 155 = (10, 60) := by decide +kernel
theorem TY160 : am_TY 160 = (13, 1) := by decide +kernel
