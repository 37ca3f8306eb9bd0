def jX5_isOutside_10  : Option Int32 :=
  some 1
def fX5_isOutside (p0 : Int32) (p1 : Int32) (p2 : Int32) : Option Int32 :=
  if p0 < p1 then
    jX5_isOutside_10
  else
    if p0 ≤ p2 then
      some 0
    else
      jX5_isOutside_10
def fX5_clearBuffer (ln : Int32) : Option (Int32 × Int32) :=
  bw_b1 (fX4_length ln) fun r4 =>
  bw_b1 (fX4_wipe ln) fun ln_12 =>
  some (r4, ln_12)
def fX5_firstError (cs : bw_A1) (ln : Int32) (rp : Int32) (rn : Int32) (rt : Int32) : Option (Int32 × Int32 × Int32 × Int32) :=
  bw_b4 (fX4_firstFault cs ln rp rn rt) fun r4 rp_4 rn_4 rt_4 =>
  some (r4, rp_4, rn_4, rt_4)
def jX5_openProjectsOfText_116 (k6 : bw_A2 → Int32 → Int32 → Int32 → Option bw_A2) (d : bw_A2) (cs : bw_A1) (ln : Int32) (x1 : Int32) (x2 : Int32) (x3 : Int32) : Option bw_A2 :=
  bw_let (x3 + 1 : Int32) fun x3_116 =>
  k6 d x1 x2 x3_116
def jX5_openProjectsOfText_114 (k6 : bw_A2 → Int32 → Int32 → Int32 → Option bw_A2) (d : bw_A2) (cs : bw_A1) (ln : Int32) (x1 : Int32) (x3 : Int32) : Option bw_A2 :=
  jX5_openProjectsOfText_116 k6 d cs ln x1 0 x3
def jX5_openProjectsOfText_41 (k6 : bw_A2 → Int32 → Int32 → Int32 → Option bw_A2) (d : bw_A2) (cs : bw_A1) (ln : Int32) (x1 : Int32) (x2 : Int32) (x3 : Int32) (s0 : Int32) : Option bw_A2 :=
  bw_b1 (fX2_isDigit s0) fun r45 =>
  if r45 = 0 then
    if s0 = 58 then
      if x1 = 0 then
        jX5_openProjectsOfText_114 k6 d cs ln x2 x3
      else
        bw_b3 (fX0_addProject (d 0) (d 5 0) x1 x2) fun r108 tp_108 np_108 =>
        bw_let (va_up (va_up d 0 tp_108) 5 (upd (d 5) 0 np_108)) fun d_108 =>
        jX5_openProjectsOfText_114 k6 d_108 cs ln 0 x3
    else
      bw_b1 (fX0_projects (d 5 0)) fun r80 =>
      bw_b3 (fX0_addTask (d 0) (d 1) (r80 - 1) x2) fun r86 tp_86 tk_86 =>
      bw_let (va_up (va_up d 0 tp_86) 1 tk_86) fun d_86 =>
      jX5_openProjectsOfText_114 k6 d_86 cs ln x1 x3
  else
    bw_let (((x2 * 10) + (s0 - 48)) : Int32) fun x2_61 =>
    jX5_openProjectsOfText_116 k6 d cs ln x1 x2_61 x3
def bX5_openProjectsOfText_6 (k6 : bw_A2 → Int32 → Int32 → Int32 → Option bw_A2) (cs : bw_A1) (ln : Int32) (d : bw_A2) (x1 : Int32) (x2 : Int32) (x3 : Int32) : Option bw_A2 :=
  bw_b1 (fX4_length ln) fun r11 =>
  if r11 < x3 then
    some d
  else
    bw_b1 (fX4_length ln) fun r22 =>
    if r22 ≤ x3 then
      jX5_openProjectsOfText_41 k6 d cs ln x1 x2 x3 59
    else
      bw_b1 (fX4_codeAt cs x3) fun r33 =>
      jX5_openProjectsOfText_41 k6 d cs ln x1 x2 x3 r33
def lX5_openProjectsOfText_6 (cs : bw_A1) (ln : Int32) : Nat → bw_A2 → Int32 → Int32 → Int32 → Option bw_A2
  | 0 => fun _ _ _ _ => none
  | n + 1 => bX5_openProjectsOfText_6  (lX5_openProjectsOfText_6 cs ln n) cs ln
def fX5_openProjectsOfText (d : bw_A2) (cs : bw_A1) (ln : Int32) : Option bw_A2 :=
  lX5_openProjectsOfText_6 cs ln bw_fu d 0 0 0
def fX5_resultOfTrial (t : bw_A2) (p1 : Int32) (p2 : Int32) : Option Int32 :=
  bw_b1 (fX0_projectPart (t 0) (t 3) p1 8) fun r7 =>
  bw_let ((r7 - 1) : Int32) fun x3_12 =>
  if p2 = 0 then
    bw_b1 (fX0_taskPart (t 1) p1 x3_12 5) fun r51 =>
    some r51
  else
    if p2 = 1 then
      bw_b1 (fX0_taskPart (t 1) p1 x3_12 4) fun r62 =>
      some r62
    else
      if p2 = 2 then
        bw_b1 (fX0_taskPart (t 1) p1 x3_12 3) fun r73 =>
        some r73
      else
        if p2 = 3 then
          bw_b1 (fX0_projectPart (t 0) (t 3) p1 2) fun r83 =>
          some r83
        else
          bw_b1 (fX0_projectPart (t 0) (t 3) p1 4) fun r93 =>
          some r93
def fX5_weakest (d : bw_A2) : Option Int32 :=
  bw_b1 (fX0_weakestProject (d 0) (d 2) (d 3) (d 5 0) (d 5 1)) fun r4 =>
  some r4
def fX5_lateShare (d : bw_A2) : Option UInt64 :=
  bw_b1 (fX0_delayOfTasks (d 0) (d 1) (d 5 0)) fun r4 =>
  if r4 = 0 then
    some FP.dconst0
  else
    bw_b1 (fX0_sumOfProjects (d 0) (d 5 0) 6) fun r22 =>
    bw_let (FP.ddiv (FP.i2d r22) (FP.i2d r4)) fun w28 => bw_num w28 <|
    some w28
def fX5_mix (p0 : Int64) (p2 : Int64) : Option Int64 :=
  some ((31 * p0) + p2)
def bX5_mixWhatIs_99 (k99 : bw_A2 → Int64 → Int32 → Option (Int64 × bw_A2)) (x3 : Int32) (d : bw_A2) (x4 : Int64) (x6 : Int32) : Option (Int64 × bw_A2) :=
  if 3 ≤ x6 then
    some (x4, d)
  else
    bw_b2 (fX0_lenderAt (d 0) (d 3) (d 4) (d 5 0) x3 x6) fun r114 tq_114 =>
    bw_let (va_up d 4 tq_114) fun d_114 =>
    bw_b1 (fX5_mix x4 (Int32.toInt64 r114)) fun r118 =>
    bw_let (x6 + 1 : Int32) fun x6_123 =>
    k99 d_114 r118 x6_123
def lX5_mixWhatIs_99 (x3 : Int32) : Nat → bw_A2 → Int64 → Int32 → Option (Int64 × bw_A2)
  | 0 => fun _ _ _ => none
  | n + 1 => bX5_mixWhatIs_99  (lX5_mixWhatIs_99 x3 n) x3
def bX5_mixWhatIs_58 (k40 : Int64 → Int32 → Option (Int64 × bw_A2)) (k58 : Int64 → Int32 → Option (Int64 × bw_A2)) (d : bw_A2) (x3 : Int32) (x6 : Int32) (x4 : Int64) (x7 : Int32) : Option (Int64 × bw_A2) :=
  if 5 < x7 then
    bw_let (x6 + 1 : Int32) fun x6_90 =>
    k40 x4 x6_90
  else
    bw_b1 (fX0_taskPart (d 1) x3 x6 x7) fun r75 =>
    bw_b1 (fX5_mix x4 (Int32.toInt64 r75)) fun r79 =>
    bw_let (x7 + 1 : Int32) fun x7_84 =>
    k58 r79 x7_84
def lX5_mixWhatIs_58 (k40 : Int64 → Int32 → Option (Int64 × bw_A2)) (d : bw_A2) (x3 : Int32) (x6 : Int32) : Nat → Int64 → Int32 → Option (Int64 × bw_A2)
  | 0 => fun _ _ => none
  | n + 1 => bX5_mixWhatIs_58 k40 (lX5_mixWhatIs_58 k40 d x3 x6 n) d x3 x6
def bX5_mixWhatIs_40 (k40 : Int64 → Int32 → Option (Int64 × bw_A2)) (d : bw_A2) (x3 : Int32) (x4 : Int64) (x6 : Int32) : Option (Int64 × bw_A2) :=
  bw_b1 (fX0_projectPart (d 0) (d 3) x3 7) fun r49 =>
  if r49 ≤ x6 then
    lX5_mixWhatIs_99 x3 bw_fu d x4 0
  else
    lX5_mixWhatIs_58 k40 d x3 x6 bw_fu x4 0
def lX5_mixWhatIs_40 (d : bw_A2) (x3 : Int32) : Nat → Int64 → Int32 → Option (Int64 × bw_A2)
  | 0 => fun _ _ => none
  | n + 1 => bX5_mixWhatIs_40  (lX5_mixWhatIs_40 d x3 n) d x3
def bX5_mixWhatIs_6 (k6 : Int64 → Int32 → Option (Int64 × bw_A2)) (d : bw_A2) (x3 : Int32) (x4 : Int64) (x6 : Int32) : Option (Int64 × bw_A2) :=
  if 14 < x6 then
    lX5_mixWhatIs_40 d x3 bw_fu x4 0
  else
    bw_b1 (fX0_projectPart (d 0) (d 3) x3 x6) fun r22 =>
    bw_b1 (fX5_mix x4 (Int32.toInt64 r22)) fun r26 =>
    bw_let (x6 + 1 : Int32) fun x6_31 =>
    k6 r26 x6_31
def lX5_mixWhatIs_6 (d : bw_A2) (x3 : Int32) : Nat → Int64 → Int32 → Option (Int64 × bw_A2)
  | 0 => fun _ _ => none
  | n + 1 => bX5_mixWhatIs_6  (lX5_mixWhatIs_6 d x3 n) d x3
def fX5_mixWhatIs (d : bw_A2) (p1 : Int64) (p3 : Int32) : Option (Int64 × bw_A2) :=
  lX5_mixWhatIs_6 d p3 bw_fu p1 0
def jX5_bitsOfShare_50 (x2 : UInt64) (x4 : Int64) : Option Int64 :=
  bw_let (FP.dsub x2 FP.dconst1) fun w52 => bw_num w52 <|
  bw_let (FP.dmul w52 4841369599423283200) fun w56 => bw_num w56 <|
  bw_let ((FP.d2l w56) : Int64) fun x6_58 =>
  some ((x4 <<< (Int32.toInt64 52 &&& 63)) ||| x6_58)
def bX5_bitsOfShare_18 (k18 : UInt64 → Int64 → Int32 → Option Int64) (x2 : UInt64) (x4 : Int64) (x6 : Int32) : Option Int64 :=
  if 1022 ≤ x6 then
    jX5_bitsOfShare_50 x2 x4
  else
    if 0 ≤ (Op.cmpValue (FP.dcmp x2 FP.dconst1) CmpOp.g) then
      jX5_bitsOfShare_50 x2 x4
    else
      bw_let (FP.dmul x2 4611686018427387904) fun w36 => bw_num w36 <|
      bw_let ((x4 - 1) : Int64) fun x4_42 =>
      bw_let (x6 + 1 : Int32) fun x6_44 =>
      k18 w36 x4_42 x6_44
def lX5_bitsOfShare_18  : Nat → UInt64 → Int64 → Int32 → Option Int64
  | 0 => fun _ _ _ => none
  | n + 1 => bX5_bitsOfShare_18  (lX5_bitsOfShare_18  n) 
def fX5_bitsOfShare (p0 : UInt64) : Option Int64 :=
  if 0 < (Op.cmpValue (FP.dcmp p0 FP.dconst0) CmpOp.g) then
    lX5_bitsOfShare_18 bw_fu p0 1023 0
  else
    some 0
