def fX4_length (ln : Int32) : Option Int32 :=
  some ln
def fX4_add (cs : bw_A1) (ln : Int32) (p1 : Int32) : Option (bw_A1 × Int32) :=
  if ln < 0 then
    some (cs, ln)
  else
    if 60 ≤ ln then
      some (cs, ln)
    else
      bw_b1 (bw_wr 60 cs ln p1) fun cs_28 =>
      bw_let ((ln + 1) : Int32) fun ln_36 =>
      some (cs_28, ln_36)
def fX4_wipe (ln : Int32) : Option Int32 :=
  some 0
def jX4_codeAt_22 (cs : bw_A1) : Option Int32 :=
  some 0
def fX4_codeAt (cs : bw_A1) (p1 : Int32) : Option Int32 :=
  if p1 < 0 then
    jX4_codeAt_22 cs
  else
    if 60 ≤ p1 then
      jX4_codeAt_22 cs
    else
      bw_b1 (bw_rd 60 cs p1) fun v18 =>
      some v18
def bX4_firstFault_9 (k9 : Int32 → Int32 → Int32 → Int32 → Option (Int32 × Int32 × Int32 × Int32)) (cs : bw_A1) (ln : Int32) (rp : Int32) (rn : Int32) (rt : Int32) (x1 : Int32) : Option (Int32 × Int32 × Int32 × Int32) :=
  if ln ≤ x1 then
    some (ln, rp, rn, rt)
  else
    bw_b1 (fX4_codeAt cs x1) fun r23 =>
    bw_b4 (fX2_takes rp rn rt r23) fun r26 rp_26 rn_26 rt_26 =>
    if r26 = 0 then
      some (x1, rp_26, rn_26, rt_26)
    else
      bw_let (x1 + 1 : Int32) fun x1_34 =>
      k9 rp_26 rn_26 rt_26 x1_34
def lX4_firstFault_9 (cs : bw_A1) (ln : Int32) : Nat → Int32 → Int32 → Int32 → Int32 → Option (Int32 × Int32 × Int32 × Int32)
  | 0 => fun _ _ _ _ => none
  | n + 1 => bX4_firstFault_9  (lX4_firstFault_9 cs ln n) cs ln
def fX4_firstFault (cs : bw_A1) (ln : Int32) (rp : Int32) (rn : Int32) (rt : Int32) : Option (Int32 × Int32 × Int32 × Int32) :=
  bw_b2 (fX2_start rp rn) fun rp_4 rn_4 =>
  lX4_firstFault_9 cs ln bw_fu rp_4 rn_4 rt 0
def jX4_isWholePlan_25 (cs : bw_A1) (ln : Int32) (rp : Int32) (rn : Int32) (rt : Int32) : Option (Int32 × Int32 × Int32 × Int32) :=
  some (0, rp, rn, rt)
def fX4_isWholePlan (cs : bw_A1) (ln : Int32) (rp : Int32) (rn : Int32) (rt : Int32) : Option (Int32 × Int32 × Int32 × Int32) :=
  bw_b4 (fX4_firstFault cs ln rp rn rt) fun r1 rp_1 rn_1 rt_1 =>
  if r1 = ln then
    bw_b1 (fX2_isAtEndOfPlan rp_1 rn_1) fun r15 =>
    if r15 = 0 then
      jX4_isWholePlan_25 cs ln rp_1 rn_1 rt_1
    else
      some (1, rp_1, rn_1, rt_1)
  else
    jX4_isWholePlan_25 cs ln rp_1 rn_1 rt_1
def jX4_projectsInPlan_25 (k4 : Int32 → Int32 → Option Int32) (cs : bw_A1) (ln : Int32) (x1 : Int32) (x2 : Int32) : Option Int32 :=
  bw_let (x2 + 1 : Int32) fun x2_25 =>
  k4 x1 x2_25
def bX4_projectsInPlan_4 (k4 : Int32 → Int32 → Option Int32) (cs : bw_A1) (ln : Int32) (x1 : Int32) (x2 : Int32) : Option Int32 :=
  if ln ≤ x2 then
    some x1
  else
    bw_b1 (fX4_codeAt cs x2) fun r14 =>
    if r14 = 59 then
      bw_let (x1 + 1 : Int32) fun x1_22 =>
      jX4_projectsInPlan_25 k4 cs ln x1_22 x2
    else
      jX4_projectsInPlan_25 k4 cs ln x1 x2
def lX4_projectsInPlan_4 (cs : bw_A1) (ln : Int32) : Nat → Int32 → Int32 → Option Int32
  | 0 => fun _ _ => none
  | n + 1 => bX4_projectsInPlan_4  (lX4_projectsInPlan_4 cs ln n) cs ln
def fX4_projectsInPlan (cs : bw_A1) (ln : Int32) : Option Int32 :=
  lX4_projectsInPlan_4 cs ln bw_fu 1 0
