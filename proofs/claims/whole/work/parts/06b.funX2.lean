def fX2_begin (rp : Int32) (rn : Int32) (p1 : Int32) : Option (Int32 × Int32) :=
  some (p1, (-1))
def fX2_start (rp : Int32) (rn : Int32) : Option (Int32 × Int32) :=
  bw_b2 (fX2_begin rp rn 0) fun rp_2 rn_2 =>
  some (rp_2, rn_2)
def jX2_isDigit_16  : Option Int32 :=
  some 0
def fX2_isDigit (p0 : Int32) : Option Int32 :=
  if p0 < 48 then
    jX2_isDigit_16
  else
    if 57 < p0 then
      jX2_isDigit_16
    else
      some 1
def fX2_leastNumber (rp : Int32) : Option Int32 :=
  if rp = 1 then
    some 0
  else
    some 1
def fX2_greatestNumber (rp : Int32) : Option Int32 :=
  if rp = 0 then
    some 9
  else
    if rp = 1 then
      some 99
    else
      some 60
def jX2_takesDigit_21 (rp : Int32) (rn : Int32) (s0 : Int32) : Option (Int32 × Int32) :=
  if rn = 0 then
    some (0, rn)
  else
    bw_b1 (fX2_leastNumber rp) fun r31 =>
    if s0 < r31 then
      some (0, rn)
    else
      bw_b1 (fX2_greatestNumber rp) fun r39 =>
      if s0 ≤ r39 then
        some (1, s0)
      else
        some (0, rn)
def fX2_takesDigit (rp : Int32) (rn : Int32) (p1 : Int32) : Option (Int32 × Int32) :=
  if rn = (-1) then
    jX2_takesDigit_21 rp rn p1
  else
    jX2_takesDigit_21 rp rn ((rn * 10) + p1)
def jX2_takesSign_86 (rp : Int32) (rn : Int32) (rt : Int32) (x1 : Int32) : Option (Int32 × Int32 × Int32 × Int32) :=
  if rp = 2 then
    if x1 = 59 then
      bw_b2 (fX2_begin rp rn 0) fun rp_102 rn_102 =>
      some (1, rp_102, rn_102, rt)
    else
      some (0, rp, rn, rt)
  else
    some (0, rp, rn, rt)
def jX2_takesSign_46 (rp : Int32) (rn : Int32) (rt : Int32) (x1 : Int32) : Option (Int32 × Int32 × Int32 × Int32) :=
  if rp = 2 then
    if x1 = 43 then
      if 8 ≤ rt then
        jX2_takesSign_86 rp rn rt x1
      else
        bw_b2 (fX2_begin rp rn 2) fun rp_71 rn_71 =>
        bw_let ((rt + 1) : Int32) fun rt_81 =>
        some (1, rp_71, rn_71, rt_81)
    else
      jX2_takesSign_86 rp rn rt x1
  else
    jX2_takesSign_86 rp rn rt x1
def jX2_takesSign_20 (rp : Int32) (rn : Int32) (rt : Int32) (x1 : Int32) : Option (Int32 × Int32 × Int32 × Int32) :=
  if rp = 1 then
    if x1 = 58 then
      bw_b2 (fX2_begin rp rn 2) fun rp_36 rn_36 =>
      some (1, rp_36, rn_36, 1)
    else
      jX2_takesSign_46 rp rn rt x1
  else
    jX2_takesSign_46 rp rn rt x1
def fX2_takesSign (rp : Int32) (rn : Int32) (rt : Int32) (p1 : Int32) : Option (Int32 × Int32 × Int32 × Int32) :=
  if rp = 0 then
    if p1 = 58 then
      bw_b2 (fX2_begin rp rn 1) fun rp_15 rn_15 =>
      some (1, rp_15, rn_15, rt)
    else
      jX2_takesSign_20 rp rn rt p1
  else
    jX2_takesSign_20 rp rn rt p1
def jX2_takes_38 (rp : Int32) (rn : Int32) (rt : Int32) : Option (Int32 × Int32 × Int32 × Int32) :=
  some (0, rp, rn, rt)
def fX2_takes (rp : Int32) (rn : Int32) (rt : Int32) (p1 : Int32) : Option (Int32 × Int32 × Int32 × Int32) :=
  bw_b1 (fX2_isDigit p1) fun r1 =>
  if r1 = 0 then
    if rn = (-1) then
      jX2_takes_38 rp rn rt
    else
      bw_b4 (fX2_takesSign rp rn rt p1) fun r28 rp_28 rn_28 rt_28 =>
      if r28 = 0 then
        jX2_takes_38 rp_28 rn_28 rt_28
      else
        some (1, rp_28, rn_28, rt_28)
  else
    bw_b2 (fX2_takesDigit rp rn (p1 - 48)) fun r12 rn_12 =>
    bw_bool r12 (some (r12, rp, rn_12, rt))
def jX2_isAtEndOfPlan_20 (rp : Int32) (rn : Int32) : Option Int32 :=
  some 0
def fX2_isAtEndOfPlan (rp : Int32) (rn : Int32) : Option Int32 :=
  if rp = 2 then
    if rn = (-1) then
      jX2_isAtEndOfPlan_20 rp rn
    else
      some 1
  else
    jX2_isAtEndOfPlan_20 rp rn
