def bX6_digest_151 (k151 : Int64 → Int32 → Option (Int64 × bw_A1 × bw_A1 × Int32 × bw_A1 × Int32 × Int32 × Int32 × Int32 × Int32 × Int64)) (z : bw_A1) (asd : bw_A1) (sm : Int32) (buf : bw_A1) (bm : Int32) (th : Int32) (od : bw_A1) (om : Int32) (ow : Int32) (ca : Int32) (bo : Int32) (la : Int32) (hh : Int64) (x1 : Int32) : Option (Int64 × bw_A1 × bw_A1 × Int32 × bw_A1 × Int32 × Int32 × Int32 × Int32 × Int32 × Int64) :=
  if bm ≤ x1 then
    some (hh, z, asd, th, od, om, ow, ca, bo, la, hh)
  else
    bw_b1 (bw_rd 60 buf x1) fun v165 =>
    bw_b1 (fX6_mix hh (Int32.toInt64 v165)) fun hh_167 =>
    bw_let (x1 + 1 : Int32) fun x1_170 =>
    k151 hh_167 x1_170
def lX6_digest_151 (z : bw_A1) (asd : bw_A1) (sm : Int32) (buf : bw_A1) (bm : Int32) (th : Int32) (od : bw_A1) (om : Int32) (ow : Int32) (ca : Int32) (bo : Int32) (la : Int32) : Nat → Int64 → Int32 → Option (Int64 × bw_A1 × bw_A1 × Int32 × bw_A1 × Int32 × Int32 × Int32 × Int32 × Int32 × Int64)
  | 0 => fun _ _ => none
  | n + 1 => bX6_digest_151  (lX6_digest_151 z asd sm buf bm th od om ow ca bo la n) z asd sm buf bm th od om ow ca bo la
def bX6_digest_87 (k87 : Int64 → Int32 → Option (Int64 × bw_A1 × bw_A1 × Int32 × bw_A1 × Int32 × Int32 × Int32 × Int32 × Int32 × Int64)) (z : bw_A1) (asd : bw_A1) (sm : Int32) (buf : bw_A1) (bm : Int32) (th : Int32) (od : bw_A1) (om : Int32) (ow : Int32) (ca : Int32) (bo : Int32) (la : Int32) (hh : Int64) (x1 : Int32) : Option (Int64 × bw_A1 × bw_A1 × Int32 × bw_A1 × Int32 × Int32 × Int32 × Int32 × Int32 × Int64) :=
  bw_b1 (bw_rd 444 z 1) fun v94 =>
  if (3 * v94) ≤ x1 then
    bw_b9 (fX6_weakestOf z asd od om ow ca bo la) fun r122 z_122 asd_122 od_122 om_122 ow_122 ca_122 bo_122 la_122 =>
    bw_b1 (fX6_mix hh (Int32.toInt64 r122)) fun hh_126 =>
    bw_b1 (fX6_shareOf z_122) fun r131 =>
    bw_b1 (fJxe99ae_doubleToLongBits_ccdee r131) fun r134 =>
    bw_b1 (fX6_mix hh_126 r134) fun hh_137 =>
    bw_b1 (fX6_mix hh_137 (Int32.toInt64 bm)) fun hh_146 =>
    lX6_digest_151 z_122 asd_122 sm buf bm th od_122 om_122 ow_122 ca_122 bo_122 la_122 bw_fu hh_146 0
  else
    bw_b1 (bw_rd 444 z (354 + x1)) fun v109 =>
    bw_b1 (fX6_mix hh (Int32.toInt64 v109)) fun hh_111 =>
    bw_let (x1 + 1 : Int32) fun x1_114 =>
    k87 hh_111 x1_114
def lX6_digest_87 (z : bw_A1) (asd : bw_A1) (sm : Int32) (buf : bw_A1) (bm : Int32) (th : Int32) (od : bw_A1) (om : Int32) (ow : Int32) (ca : Int32) (bo : Int32) (la : Int32) : Nat → Int64 → Int32 → Option (Int64 × bw_A1 × bw_A1 × Int32 × bw_A1 × Int32 × Int32 × Int32 × Int32 × Int32 × Int64)
  | 0 => fun _ _ => none
  | n + 1 => bX6_digest_87  (lX6_digest_87 z asd sm buf bm th od om ow ca bo la n) z asd sm buf bm th od om ow ca bo la
def bX6_digest_64 (k64 : bw_A1 → bw_A1 → bw_A1 → Int32 → Int32 → Int32 → Int32 → Int32 → Int64 → Int32 → Option (Int64 × bw_A1 × bw_A1 × Int32 × bw_A1 × Int32 × Int32 × Int32 × Int32 × Int32 × Int64)) (sm : Int32) (buf : bw_A1) (bm : Int32) (th : Int32) (z : bw_A1) (asd : bw_A1) (od : bw_A1) (om : Int32) (ow : Int32) (ca : Int32) (bo : Int32) (la : Int32) (hh : Int64) (x1 : Int32) : Option (Int64 × bw_A1 × bw_A1 × Int32 × bw_A1 × Int32 × Int32 × Int32 × Int32 × Int32 × Int64) :=
  bw_b1 (bw_rd 444 z 0) fun v70 =>
  if v70 ≤ x1 then
    lX6_digest_87 z asd sm buf bm th od om ow ca bo la bw_fu hh 0
  else
    bw_b9 (fX6_mixProject z asd od om ow ca bo la hh x1) fun z_76 asd_76 od_76 om_76 ow_76 ca_76 bo_76 la_76 hh_76 =>
    bw_let (x1 + 1 : Int32) fun x1_79 =>
    k64 z_76 asd_76 od_76 om_76 ow_76 ca_76 bo_76 la_76 hh_76 x1_79
def lX6_digest_64 (sm : Int32) (buf : bw_A1) (bm : Int32) (th : Int32) : Nat → bw_A1 → bw_A1 → bw_A1 → Int32 → Int32 → Int32 → Int32 → Int32 → Int64 → Int32 → Option (Int64 × bw_A1 × bw_A1 × Int32 × bw_A1 × Int32 × Int32 × Int32 × Int32 × Int32 × Int64)
  | 0 => fun _ _ _ _ _ _ _ _ _ _ => none
  | n + 1 => bX6_digest_64  (lX6_digest_64 sm buf bm th n) sm buf bm th
def bX6_digest_38 (k38 : Int64 → Int32 → Option (Int64 × bw_A1 × bw_A1 × Int32 × bw_A1 × Int32 × Int32 × Int32 × Int32 × Int32 × Int64)) (z : bw_A1) (asd : bw_A1) (sm : Int32) (buf : bw_A1) (bm : Int32) (th : Int32) (od : bw_A1) (om : Int32) (ow : Int32) (ca : Int32) (bo : Int32) (la : Int32) (hh : Int64) (x1 : Int32) : Option (Int64 × bw_A1 × bw_A1 × Int32 × bw_A1 × Int32 × Int32 × Int32 × Int32 × Int32 × Int64) :=
  if 3 ≤ x1 then
    lX6_digest_64 sm buf bm th bw_fu z asd od om ow ca bo la hh 0
  else
    bw_b1 (bw_rd 444 z (3 + x1)) fun v51 =>
    bw_b1 (fX6_mix hh (Int32.toInt64 v51)) fun hh_53 =>
    bw_let (x1 + 1 : Int32) fun x1_56 =>
    k38 hh_53 x1_56
def lX6_digest_38 (z : bw_A1) (asd : bw_A1) (sm : Int32) (buf : bw_A1) (bm : Int32) (th : Int32) (od : bw_A1) (om : Int32) (ow : Int32) (ca : Int32) (bo : Int32) (la : Int32) : Nat → Int64 → Int32 → Option (Int64 × bw_A1 × bw_A1 × Int32 × bw_A1 × Int32 × Int32 × Int32 × Int32 × Int32 × Int64)
  | 0 => fun _ _ => none
  | n + 1 => bX6_digest_38  (lX6_digest_38 z asd sm buf bm th od om ow ca bo la n) z asd sm buf bm th od om ow ca bo la
def bX6_digest_14 (k14 : Int64 → Int32 → Option (Int64 × bw_A1 × bw_A1 × Int32 × bw_A1 × Int32 × Int32 × Int32 × Int32 × Int32 × Int64)) (z : bw_A1) (asd : bw_A1) (sm : Int32) (buf : bw_A1) (bm : Int32) (th : Int32) (od : bw_A1) (om : Int32) (ow : Int32) (ca : Int32) (bo : Int32) (la : Int32) (hh : Int64) (x1 : Int32) : Option (Int64 × bw_A1 × bw_A1 × Int32 × bw_A1 × Int32 × Int32 × Int32 × Int32 × Int32 × Int64) :=
  if 10 ≤ x1 then
    lX6_digest_38 z asd sm buf bm th od om ow ca bo la bw_fu hh 0
  else
    bw_b1 (fX6_counted z sm x1) fun r23 =>
    bw_b1 (fX6_mix hh (Int32.toInt64 r23)) fun hh_27 =>
    bw_let (x1 + 1 : Int32) fun x1_30 =>
    k14 hh_27 x1_30
def lX6_digest_14 (z : bw_A1) (asd : bw_A1) (sm : Int32) (buf : bw_A1) (bm : Int32) (th : Int32) (od : bw_A1) (om : Int32) (ow : Int32) (ca : Int32) (bo : Int32) (la : Int32) : Nat → Int64 → Int32 → Option (Int64 × bw_A1 × bw_A1 × Int32 × bw_A1 × Int32 × Int32 × Int32 × Int32 × Int32 × Int64)
  | 0 => fun _ _ => none
  | n + 1 => bX6_digest_14  (lX6_digest_14 z asd sm buf bm th od om ow ca bo la n) z asd sm buf bm th od om ow ca bo la
def fX6_digest (z : bw_A1) (asd : bw_A1) (sm : Int32) (buf : bw_A1) (bm : Int32) (th : Int32) (od : bw_A1) (om : Int32) (ow : Int32) (ca : Int32) (bo : Int32) (la : Int32) (hh : Int64) : Option (Int64 × bw_A1 × bw_A1 × Int32 × bw_A1 × Int32 × Int32 × Int32 × Int32 × Int32 × Int64) :=
  lX6_digest_14 z asd sm buf bm 0 od om ow ca bo la bw_fu 2473 0
