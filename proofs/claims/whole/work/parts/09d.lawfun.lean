def jL_law_1618 (sl_ : Nat) (xs : Nat → Int32) (k23 : bw_A2 → bw_A2 → bw_A3 → Int32 → Int32 → bw_A1 → Int32 → Int32 → Int32 → Int32 → bw_A1 → bw_A1 → bw_A1 → Int32 → bw_A1 → Int32 → Int32 → bw_A1 → Int32 → Int32 → Int32 → Int32 → Int32 → Int32 → Int32 → bw_A1 → Int64 → (Nat → Int64) → Int32 → Option Unit) (d : bw_A2) (t : bw_A2) (sl : bw_A3) (hn : Int32) (hs : Int32) (cs : bw_A1) (ln : Int32) (rp : Int32) (rn : Int32) (rt : Int32) (z : bw_A1) (rows : bw_A1) (asd : bw_A1) (sm : Int32) (buf : bw_A1) (bm : Int32) (th : Int32) (od : bw_A1) (om : Int32) (ow : Int32) (ca : Int32) (bo : Int32) (la : Int32) (pl : Int32) (to : Int32) (rd : bw_A1) (hh : Int64) (ou : (Nat → Int64)) (x4 : Int32) : Option Unit :=
  bw_let (x4 + 4 : Int32) fun x4_1618 =>
  k23 d t sl hn hs cs ln rp rn rt z rows asd sm buf bm th od om ow ca bo la pl to rd hh ou x4_1618
def jL_law_221 (sl_ : Nat) (xs : Nat → Int32) (k23 : bw_A2 → bw_A2 → bw_A3 → Int32 → Int32 → bw_A1 → Int32 → Int32 → Int32 → Int32 → bw_A1 → bw_A1 → bw_A1 → Int32 → bw_A1 → Int32 → Int32 → bw_A1 → Int32 → Int32 → Int32 → Int32 → Int32 → Int32 → Int32 → bw_A1 → Int64 → (Nat → Int64) → Int32 → Option Unit) (d : bw_A2) (t : bw_A2) (sl : bw_A3) (hn : Int32) (hs : Int32) (cs : bw_A1) (ln : Int32) (rp : Int32) (rn : Int32) (rt : Int32) (z : bw_A1) (rows : bw_A1) (asd : bw_A1) (sm : Int32) (buf : bw_A1) (bm : Int32) (th : Int32) (od : bw_A1) (om : Int32) (ow : Int32) (ca : Int32) (bo : Int32) (la : Int32) (pl : Int32) (to : Int32) (rd : bw_A1) (hh : Int64) (ou : (Nat → Int64)) (x4 : Int32) : Option Unit :=
  jL_law_1618 sl_ xs k23 d t sl hn hs cs ln rp rn rt z rows asd sm buf bm th od om ow ca bo la pl to rd hh ou x4
def jL_law_289 (sl_ : Nat) (xs : Nat → Int32) (k23 : bw_A2 → bw_A2 → bw_A3 → Int32 → Int32 → bw_A1 → Int32 → Int32 → Int32 → Int32 → bw_A1 → bw_A1 → bw_A1 → Int32 → bw_A1 → Int32 → Int32 → bw_A1 → Int32 → Int32 → Int32 → Int32 → Int32 → Int32 → Int32 → bw_A1 → Int64 → (Nat → Int64) → Int32 → Option Unit) (d : bw_A2) (t : bw_A2) (sl : bw_A3) (hn : Int32) (hs : Int32) (cs : bw_A1) (ln : Int32) (rp : Int32) (rn : Int32) (rt : Int32) (z : bw_A1) (rows : bw_A1) (asd : bw_A1) (sm : Int32) (buf : bw_A1) (bm : Int32) (th : Int32) (od : bw_A1) (om : Int32) (ow : Int32) (ca : Int32) (bo : Int32) (la : Int32) (pl : Int32) (to : Int32) (rd : bw_A1) (hh : Int64) (ou : (Nat → Int64)) (x4 : Int32) : Option Unit :=
  jL_law_1618 sl_ xs k23 d t sl hn hs cs ln rp rn rt z rows asd sm buf bm th od om ow ca bo la pl to rd hh ou x4
def jL_law_357 (sl_ : Nat) (xs : Nat → Int32) (k23 : bw_A2 → bw_A2 → bw_A3 → Int32 → Int32 → bw_A1 → Int32 → Int32 → Int32 → Int32 → bw_A1 → bw_A1 → bw_A1 → Int32 → bw_A1 → Int32 → Int32 → bw_A1 → Int32 → Int32 → Int32 → Int32 → Int32 → Int32 → Int32 → bw_A1 → Int64 → (Nat → Int64) → Int32 → Option Unit) (d : bw_A2) (t : bw_A2) (sl : bw_A3) (hn : Int32) (hs : Int32) (cs : bw_A1) (ln : Int32) (rp : Int32) (rn : Int32) (rt : Int32) (z : bw_A1) (rows : bw_A1) (asd : bw_A1) (sm : Int32) (buf : bw_A1) (bm : Int32) (th : Int32) (od : bw_A1) (om : Int32) (ow : Int32) (ca : Int32) (bo : Int32) (la : Int32) (pl : Int32) (to : Int32) (rd : bw_A1) (hh : Int64) (ou : (Nat → Int64)) (x4 : Int32) : Option Unit :=
  jL_law_1618 sl_ xs k23 d t sl hn hs cs ln rp rn rt z rows asd sm buf bm th od om ow ca bo la pl to rd hh ou x4
def jL_law_425 (sl_ : Nat) (xs : Nat → Int32) (k23 : bw_A2 → bw_A2 → bw_A3 → Int32 → Int32 → bw_A1 → Int32 → Int32 → Int32 → Int32 → bw_A1 → bw_A1 → bw_A1 → Int32 → bw_A1 → Int32 → Int32 → bw_A1 → Int32 → Int32 → Int32 → Int32 → Int32 → Int32 → Int32 → bw_A1 → Int64 → (Nat → Int64) → Int32 → Option Unit) (d : bw_A2) (t : bw_A2) (sl : bw_A3) (hn : Int32) (hs : Int32) (cs : bw_A1) (ln : Int32) (rp : Int32) (rn : Int32) (rt : Int32) (z : bw_A1) (rows : bw_A1) (asd : bw_A1) (sm : Int32) (buf : bw_A1) (bm : Int32) (th : Int32) (od : bw_A1) (om : Int32) (ow : Int32) (ca : Int32) (bo : Int32) (la : Int32) (pl : Int32) (to : Int32) (rd : bw_A1) (hh : Int64) (ou : (Nat → Int64)) (x4 : Int32) : Option Unit :=
  jL_law_1618 sl_ xs k23 d t sl hn hs cs ln rp rn rt z rows asd sm buf bm th od om ow ca bo la pl to rd hh ou x4
def jL_law_493 (sl_ : Nat) (xs : Nat → Int32) (k23 : bw_A2 → bw_A2 → bw_A3 → Int32 → Int32 → bw_A1 → Int32 → Int32 → Int32 → Int32 → bw_A1 → bw_A1 → bw_A1 → Int32 → bw_A1 → Int32 → Int32 → bw_A1 → Int32 → Int32 → Int32 → Int32 → Int32 → Int32 → Int32 → bw_A1 → Int64 → (Nat → Int64) → Int32 → Option Unit) (d : bw_A2) (t : bw_A2) (sl : bw_A3) (hn : Int32) (hs : Int32) (cs : bw_A1) (ln : Int32) (rp : Int32) (rn : Int32) (rt : Int32) (z : bw_A1) (rows : bw_A1) (asd : bw_A1) (sm : Int32) (buf : bw_A1) (bm : Int32) (th : Int32) (od : bw_A1) (om : Int32) (ow : Int32) (ca : Int32) (bo : Int32) (la : Int32) (pl : Int32) (to : Int32) (rd : bw_A1) (hh : Int64) (ou : (Nat → Int64)) (x4 : Int32) : Option Unit :=
  jL_law_1618 sl_ xs k23 d t sl hn hs cs ln rp rn rt z rows asd sm buf bm th od om ow ca bo la pl to rd hh ou x4
def jL_law_573 (sl_ : Nat) (xs : Nat → Int32) (k23 : bw_A2 → bw_A2 → bw_A3 → Int32 → Int32 → bw_A1 → Int32 → Int32 → Int32 → Int32 → bw_A1 → bw_A1 → bw_A1 → Int32 → bw_A1 → Int32 → Int32 → bw_A1 → Int32 → Int32 → Int32 → Int32 → Int32 → Int32 → Int32 → bw_A1 → Int64 → (Nat → Int64) → Int32 → Option Unit) (d : bw_A2) (t : bw_A2) (sl : bw_A3) (hn : Int32) (hs : Int32) (cs : bw_A1) (ln : Int32) (rp : Int32) (rn : Int32) (rt : Int32) (z : bw_A1) (rows : bw_A1) (asd : bw_A1) (sm : Int32) (buf : bw_A1) (bm : Int32) (th : Int32) (od : bw_A1) (om : Int32) (ow : Int32) (ca : Int32) (bo : Int32) (la : Int32) (pl : Int32) (to : Int32) (rd : bw_A1) (hh : Int64) (ou : (Nat → Int64)) (x4 : Int32) : Option Unit :=
  jL_law_1618 sl_ xs k23 d t sl hn hs cs ln rp rn rt z rows asd sm buf bm th od om ow ca bo la pl to rd hh ou x4
def jL_law_653 (sl_ : Nat) (xs : Nat → Int32) (k23 : bw_A2 → bw_A2 → bw_A3 → Int32 → Int32 → bw_A1 → Int32 → Int32 → Int32 → Int32 → bw_A1 → bw_A1 → bw_A1 → Int32 → bw_A1 → Int32 → Int32 → bw_A1 → Int32 → Int32 → Int32 → Int32 → Int32 → Int32 → Int32 → bw_A1 → Int64 → (Nat → Int64) → Int32 → Option Unit) (d : bw_A2) (t : bw_A2) (sl : bw_A3) (hn : Int32) (hs : Int32) (cs : bw_A1) (ln : Int32) (rp : Int32) (rn : Int32) (rt : Int32) (z : bw_A1) (rows : bw_A1) (asd : bw_A1) (sm : Int32) (buf : bw_A1) (bm : Int32) (th : Int32) (od : bw_A1) (om : Int32) (ow : Int32) (ca : Int32) (bo : Int32) (la : Int32) (pl : Int32) (to : Int32) (rd : bw_A1) (hh : Int64) (ou : (Nat → Int64)) (x4 : Int32) : Option Unit :=
  jL_law_1618 sl_ xs k23 d t sl hn hs cs ln rp rn rt z rows asd sm buf bm th od om ow ca bo la pl to rd hh ou x4
def jL_law_709 (sl_ : Nat) (xs : Nat → Int32) (k23 : bw_A2 → bw_A2 → bw_A3 → Int32 → Int32 → bw_A1 → Int32 → Int32 → Int32 → Int32 → bw_A1 → bw_A1 → bw_A1 → Int32 → bw_A1 → Int32 → Int32 → bw_A1 → Int32 → Int32 → Int32 → Int32 → Int32 → Int32 → Int32 → bw_A1 → Int64 → (Nat → Int64) → Int32 → Option Unit) (d : bw_A2) (t : bw_A2) (sl : bw_A3) (hn : Int32) (hs : Int32) (cs : bw_A1) (ln : Int32) (rp : Int32) (rn : Int32) (rt : Int32) (z : bw_A1) (rows : bw_A1) (asd : bw_A1) (sm : Int32) (buf : bw_A1) (bm : Int32) (th : Int32) (od : bw_A1) (om : Int32) (ow : Int32) (ca : Int32) (bo : Int32) (la : Int32) (pl : Int32) (to : Int32) (rd : bw_A1) (hh : Int64) (ou : (Nat → Int64)) (x4 : Int32) : Option Unit :=
  jL_law_1618 sl_ xs k23 d t sl hn hs cs ln rp rn rt z rows asd sm buf bm th od om ow ca bo la pl to rd hh ou x4
def jL_law_765 (sl_ : Nat) (xs : Nat → Int32) (k23 : bw_A2 → bw_A2 → bw_A3 → Int32 → Int32 → bw_A1 → Int32 → Int32 → Int32 → Int32 → bw_A1 → bw_A1 → bw_A1 → Int32 → bw_A1 → Int32 → Int32 → bw_A1 → Int32 → Int32 → Int32 → Int32 → Int32 → Int32 → Int32 → bw_A1 → Int64 → (Nat → Int64) → Int32 → Option Unit) (d : bw_A2) (t : bw_A2) (sl : bw_A3) (hn : Int32) (hs : Int32) (cs : bw_A1) (ln : Int32) (rp : Int32) (rn : Int32) (rt : Int32) (z : bw_A1) (rows : bw_A1) (asd : bw_A1) (sm : Int32) (buf : bw_A1) (bm : Int32) (th : Int32) (od : bw_A1) (om : Int32) (ow : Int32) (ca : Int32) (bo : Int32) (la : Int32) (pl : Int32) (to : Int32) (rd : bw_A1) (hh : Int64) (ou : (Nat → Int64)) (x4 : Int32) : Option Unit :=
  jL_law_1618 sl_ xs k23 d t sl hn hs cs ln rp rn rt z rows asd sm buf bm th od om ow ca bo la pl to rd hh ou x4
def jL_law_835 (sl_ : Nat) (xs : Nat → Int32) (k23 : bw_A2 → bw_A2 → bw_A3 → Int32 → Int32 → bw_A1 → Int32 → Int32 → Int32 → Int32 → bw_A1 → bw_A1 → bw_A1 → Int32 → bw_A1 → Int32 → Int32 → bw_A1 → Int32 → Int32 → Int32 → Int32 → Int32 → Int32 → Int32 → bw_A1 → Int64 → (Nat → Int64) → Int32 → Option Unit) (d : bw_A2) (t : bw_A2) (sl : bw_A3) (hn : Int32) (hs : Int32) (cs : bw_A1) (ln : Int32) (rp : Int32) (rn : Int32) (rt : Int32) (z : bw_A1) (rows : bw_A1) (asd : bw_A1) (sm : Int32) (buf : bw_A1) (bm : Int32) (th : Int32) (od : bw_A1) (om : Int32) (ow : Int32) (ca : Int32) (bo : Int32) (la : Int32) (pl : Int32) (to : Int32) (rd : bw_A1) (hh : Int64) (ou : (Nat → Int64)) (x4 : Int32) : Option Unit :=
  jL_law_1618 sl_ xs k23 d t sl hn hs cs ln rp rn rt z rows asd sm buf bm th od om ow ca bo la pl to rd hh ou x4
def jL_law_879 (sl_ : Nat) (xs : Nat → Int32) (k23 : bw_A2 → bw_A2 → bw_A3 → Int32 → Int32 → bw_A1 → Int32 → Int32 → Int32 → Int32 → bw_A1 → bw_A1 → bw_A1 → Int32 → bw_A1 → Int32 → Int32 → bw_A1 → Int32 → Int32 → Int32 → Int32 → Int32 → Int32 → Int32 → bw_A1 → Int64 → (Nat → Int64) → Int32 → Option Unit) (d : bw_A2) (t : bw_A2) (sl : bw_A3) (hn : Int32) (hs : Int32) (cs : bw_A1) (ln : Int32) (rp : Int32) (rn : Int32) (rt : Int32) (z : bw_A1) (rows : bw_A1) (asd : bw_A1) (sm : Int32) (buf : bw_A1) (bm : Int32) (th : Int32) (od : bw_A1) (om : Int32) (ow : Int32) (ca : Int32) (bo : Int32) (la : Int32) (pl : Int32) (to : Int32) (rd : bw_A1) (hh : Int64) (ou : (Nat → Int64)) (x4 : Int32) : Option Unit :=
  jL_law_1618 sl_ xs k23 d t sl hn hs cs ln rp rn rt z rows asd sm buf bm th od om ow ca bo la pl to rd hh ou x4
def jL_law_947 (sl_ : Nat) (xs : Nat → Int32) (k23 : bw_A2 → bw_A2 → bw_A3 → Int32 → Int32 → bw_A1 → Int32 → Int32 → Int32 → Int32 → bw_A1 → bw_A1 → bw_A1 → Int32 → bw_A1 → Int32 → Int32 → bw_A1 → Int32 → Int32 → Int32 → Int32 → Int32 → Int32 → Int32 → bw_A1 → Int64 → (Nat → Int64) → Int32 → Option Unit) (d : bw_A2) (t : bw_A2) (sl : bw_A3) (hn : Int32) (hs : Int32) (cs : bw_A1) (ln : Int32) (rp : Int32) (rn : Int32) (rt : Int32) (z : bw_A1) (rows : bw_A1) (asd : bw_A1) (sm : Int32) (buf : bw_A1) (bm : Int32) (th : Int32) (od : bw_A1) (om : Int32) (ow : Int32) (ca : Int32) (bo : Int32) (la : Int32) (pl : Int32) (to : Int32) (rd : bw_A1) (hh : Int64) (ou : (Nat → Int64)) (x4 : Int32) : Option Unit :=
  jL_law_1618 sl_ xs k23 d t sl hn hs cs ln rp rn rt z rows asd sm buf bm th od om ow ca bo la pl to rd hh ou x4
def jL_law_1027 (sl_ : Nat) (xs : Nat → Int32) (k23 : bw_A2 → bw_A2 → bw_A3 → Int32 → Int32 → bw_A1 → Int32 → Int32 → Int32 → Int32 → bw_A1 → bw_A1 → bw_A1 → Int32 → bw_A1 → Int32 → Int32 → bw_A1 → Int32 → Int32 → Int32 → Int32 → Int32 → Int32 → Int32 → bw_A1 → Int64 → (Nat → Int64) → Int32 → Option Unit) (d : bw_A2) (t : bw_A2) (sl : bw_A3) (hn : Int32) (hs : Int32) (cs : bw_A1) (ln : Int32) (rp : Int32) (rn : Int32) (rt : Int32) (z : bw_A1) (rows : bw_A1) (asd : bw_A1) (sm : Int32) (buf : bw_A1) (bm : Int32) (th : Int32) (od : bw_A1) (om : Int32) (ow : Int32) (ca : Int32) (bo : Int32) (la : Int32) (pl : Int32) (to : Int32) (rd : bw_A1) (hh : Int64) (ou : (Nat → Int64)) (x4 : Int32) : Option Unit :=
  jL_law_1618 sl_ xs k23 d t sl hn hs cs ln rp rn rt z rows asd sm buf bm th od om ow ca bo la pl to rd hh ou x4
def jL_law_1095 (sl_ : Nat) (xs : Nat → Int32) (k23 : bw_A2 → bw_A2 → bw_A3 → Int32 → Int32 → bw_A1 → Int32 → Int32 → Int32 → Int32 → bw_A1 → bw_A1 → bw_A1 → Int32 → bw_A1 → Int32 → Int32 → bw_A1 → Int32 → Int32 → Int32 → Int32 → Int32 → Int32 → Int32 → bw_A1 → Int64 → (Nat → Int64) → Int32 → Option Unit) (d : bw_A2) (t : bw_A2) (sl : bw_A3) (hn : Int32) (hs : Int32) (cs : bw_A1) (ln : Int32) (rp : Int32) (rn : Int32) (rt : Int32) (z : bw_A1) (rows : bw_A1) (asd : bw_A1) (sm : Int32) (buf : bw_A1) (bm : Int32) (th : Int32) (od : bw_A1) (om : Int32) (ow : Int32) (ca : Int32) (bo : Int32) (la : Int32) (pl : Int32) (to : Int32) (rd : bw_A1) (hh : Int64) (ou : (Nat → Int64)) (x4 : Int32) : Option Unit :=
  jL_law_1618 sl_ xs k23 d t sl hn hs cs ln rp rn rt z rows asd sm buf bm th od om ow ca bo la pl to rd hh ou x4
def jL_law_1163 (sl_ : Nat) (xs : Nat → Int32) (k23 : bw_A2 → bw_A2 → bw_A3 → Int32 → Int32 → bw_A1 → Int32 → Int32 → Int32 → Int32 → bw_A1 → bw_A1 → bw_A1 → Int32 → bw_A1 → Int32 → Int32 → bw_A1 → Int32 → Int32 → Int32 → Int32 → Int32 → Int32 → Int32 → bw_A1 → Int64 → (Nat → Int64) → Int32 → Option Unit) (d : bw_A2) (t : bw_A2) (sl : bw_A3) (hn : Int32) (hs : Int32) (cs : bw_A1) (ln : Int32) (rp : Int32) (rn : Int32) (rt : Int32) (z : bw_A1) (rows : bw_A1) (asd : bw_A1) (sm : Int32) (buf : bw_A1) (bm : Int32) (th : Int32) (od : bw_A1) (om : Int32) (ow : Int32) (ca : Int32) (bo : Int32) (la : Int32) (pl : Int32) (to : Int32) (rd : bw_A1) (hh : Int64) (ou : (Nat → Int64)) (x4 : Int32) : Option Unit :=
  jL_law_1618 sl_ xs k23 d t sl hn hs cs ln rp rn rt z rows asd sm buf bm th od om ow ca bo la pl to rd hh ou x4
def jL_law_1231 (sl_ : Nat) (xs : Nat → Int32) (k23 : bw_A2 → bw_A2 → bw_A3 → Int32 → Int32 → bw_A1 → Int32 → Int32 → Int32 → Int32 → bw_A1 → bw_A1 → bw_A1 → Int32 → bw_A1 → Int32 → Int32 → bw_A1 → Int32 → Int32 → Int32 → Int32 → Int32 → Int32 → Int32 → bw_A1 → Int64 → (Nat → Int64) → Int32 → Option Unit) (d : bw_A2) (t : bw_A2) (sl : bw_A3) (hn : Int32) (hs : Int32) (cs : bw_A1) (ln : Int32) (rp : Int32) (rn : Int32) (rt : Int32) (z : bw_A1) (rows : bw_A1) (asd : bw_A1) (sm : Int32) (buf : bw_A1) (bm : Int32) (th : Int32) (od : bw_A1) (om : Int32) (ow : Int32) (ca : Int32) (bo : Int32) (la : Int32) (pl : Int32) (to : Int32) (rd : bw_A1) (hh : Int64) (ou : (Nat → Int64)) (x4 : Int32) : Option Unit :=
  jL_law_1618 sl_ xs k23 d t sl hn hs cs ln rp rn rt z rows asd sm buf bm th od om ow ca bo la pl to rd hh ou x4
def jL_law_1287 (sl_ : Nat) (xs : Nat → Int32) (k23 : bw_A2 → bw_A2 → bw_A3 → Int32 → Int32 → bw_A1 → Int32 → Int32 → Int32 → Int32 → bw_A1 → bw_A1 → bw_A1 → Int32 → bw_A1 → Int32 → Int32 → bw_A1 → Int32 → Int32 → Int32 → Int32 → Int32 → Int32 → Int32 → bw_A1 → Int64 → (Nat → Int64) → Int32 → Option Unit) (d : bw_A2) (t : bw_A2) (sl : bw_A3) (hn : Int32) (hs : Int32) (cs : bw_A1) (ln : Int32) (rp : Int32) (rn : Int32) (rt : Int32) (z : bw_A1) (rows : bw_A1) (asd : bw_A1) (sm : Int32) (buf : bw_A1) (bm : Int32) (th : Int32) (od : bw_A1) (om : Int32) (ow : Int32) (ca : Int32) (bo : Int32) (la : Int32) (pl : Int32) (to : Int32) (rd : bw_A1) (hh : Int64) (ou : (Nat → Int64)) (x4 : Int32) : Option Unit :=
  jL_law_1618 sl_ xs k23 d t sl hn hs cs ln rp rn rt z rows asd sm buf bm th od om ow ca bo la pl to rd hh ou x4
def jL_law_1343 (sl_ : Nat) (xs : Nat → Int32) (k23 : bw_A2 → bw_A2 → bw_A3 → Int32 → Int32 → bw_A1 → Int32 → Int32 → Int32 → Int32 → bw_A1 → bw_A1 → bw_A1 → Int32 → bw_A1 → Int32 → Int32 → bw_A1 → Int32 → Int32 → Int32 → Int32 → Int32 → Int32 → Int32 → bw_A1 → Int64 → (Nat → Int64) → Int32 → Option Unit) (d : bw_A2) (t : bw_A2) (sl : bw_A3) (hn : Int32) (hs : Int32) (cs : bw_A1) (ln : Int32) (rp : Int32) (rn : Int32) (rt : Int32) (z : bw_A1) (rows : bw_A1) (asd : bw_A1) (sm : Int32) (buf : bw_A1) (bm : Int32) (th : Int32) (od : bw_A1) (om : Int32) (ow : Int32) (ca : Int32) (bo : Int32) (la : Int32) (pl : Int32) (to : Int32) (rd : bw_A1) (hh : Int64) (ou : (Nat → Int64)) (x4 : Int32) : Option Unit :=
  jL_law_1618 sl_ xs k23 d t sl hn hs cs ln rp rn rt z rows asd sm buf bm th od om ow ca bo la pl to rd hh ou x4
def jL_law_1423 (sl_ : Nat) (xs : Nat → Int32) (k23 : bw_A2 → bw_A2 → bw_A3 → Int32 → Int32 → bw_A1 → Int32 → Int32 → Int32 → Int32 → bw_A1 → bw_A1 → bw_A1 → Int32 → bw_A1 → Int32 → Int32 → bw_A1 → Int32 → Int32 → Int32 → Int32 → Int32 → Int32 → Int32 → bw_A1 → Int64 → (Nat → Int64) → Int32 → Option Unit) (d : bw_A2) (t : bw_A2) (sl : bw_A3) (hn : Int32) (hs : Int32) (cs : bw_A1) (ln : Int32) (rp : Int32) (rn : Int32) (rt : Int32) (z : bw_A1) (rows : bw_A1) (asd : bw_A1) (sm : Int32) (buf : bw_A1) (bm : Int32) (th : Int32) (od : bw_A1) (om : Int32) (ow : Int32) (ca : Int32) (bo : Int32) (la : Int32) (pl : Int32) (to : Int32) (rd : bw_A1) (hh : Int64) (ou : (Nat → Int64)) (x4 : Int32) : Option Unit :=
  jL_law_1618 sl_ xs k23 d t sl hn hs cs ln rp rn rt z rows asd sm buf bm th od om ow ca bo la pl to rd hh ou x4
def jL_law_1479 (sl_ : Nat) (xs : Nat → Int32) (k23 : bw_A2 → bw_A2 → bw_A3 → Int32 → Int32 → bw_A1 → Int32 → Int32 → Int32 → Int32 → bw_A1 → bw_A1 → bw_A1 → Int32 → bw_A1 → Int32 → Int32 → bw_A1 → Int32 → Int32 → Int32 → Int32 → Int32 → Int32 → Int32 → bw_A1 → Int64 → (Nat → Int64) → Int32 → Option Unit) (d : bw_A2) (t : bw_A2) (sl : bw_A3) (hn : Int32) (hs : Int32) (cs : bw_A1) (ln : Int32) (rp : Int32) (rn : Int32) (rt : Int32) (z : bw_A1) (rows : bw_A1) (asd : bw_A1) (sm : Int32) (buf : bw_A1) (bm : Int32) (th : Int32) (od : bw_A1) (om : Int32) (ow : Int32) (ca : Int32) (bo : Int32) (la : Int32) (pl : Int32) (to : Int32) (rd : bw_A1) (hh : Int64) (ou : (Nat → Int64)) (x4 : Int32) : Option Unit :=
  jL_law_1618 sl_ xs k23 d t sl hn hs cs ln rp rn rt z rows asd sm buf bm th od om ow ca bo la pl to rd hh ou x4
def jL_law_1560 (sl_ : Nat) (xs : Nat → Int32) (k23 : bw_A2 → bw_A2 → bw_A3 → Int32 → Int32 → bw_A1 → Int32 → Int32 → Int32 → Int32 → bw_A1 → bw_A1 → bw_A1 → Int32 → bw_A1 → Int32 → Int32 → bw_A1 → Int32 → Int32 → Int32 → Int32 → Int32 → Int32 → Int32 → bw_A1 → Int64 → (Nat → Int64) → Int32 → Option Unit) (d : bw_A2) (t : bw_A2) (sl : bw_A3) (hn : Int32) (hs : Int32) (cs : bw_A1) (ln : Int32) (rp : Int32) (rn : Int32) (rt : Int32) (z : bw_A1) (rows : bw_A1) (asd : bw_A1) (sm : Int32) (buf : bw_A1) (bm : Int32) (th : Int32) (od : bw_A1) (om : Int32) (ow : Int32) (ca : Int32) (bo : Int32) (la : Int32) (pl : Int32) (to : Int32) (rd : bw_A1) (hh : Int64) (ou : (Nat → Int64)) (x4 : Int32) : Option Unit :=
  jL_law_1618 sl_ xs k23 d t sl hn hs cs ln rp rn rt z rows asd sm buf bm th od om ow ca bo la pl to rd hh ou x4
def jL_law_1601 (sl_ : Nat) (xs : Nat → Int32) (k23 : bw_A2 → bw_A2 → bw_A3 → Int32 → Int32 → bw_A1 → Int32 → Int32 → Int32 → Int32 → bw_A1 → bw_A1 → bw_A1 → Int32 → bw_A1 → Int32 → Int32 → bw_A1 → Int32 → Int32 → Int32 → Int32 → Int32 → Int32 → Int32 → bw_A1 → Int64 → (Nat → Int64) → Int32 → Option Unit) (d : bw_A2) (t : bw_A2) (sl : bw_A3) (hn : Int32) (hs : Int32) (cs : bw_A1) (ln : Int32) (rp : Int32) (rn : Int32) (rt : Int32) (z : bw_A1) (rows : bw_A1) (asd : bw_A1) (sm : Int32) (buf : bw_A1) (bm : Int32) (th : Int32) (od : bw_A1) (om : Int32) (ow : Int32) (ca : Int32) (bo : Int32) (la : Int32) (pl : Int32) (to : Int32) (rd : bw_A1) (hh : Int64) (ou : (Nat → Int64)) (x4 : Int32) : Option Unit :=
  jL_law_1618 sl_ xs k23 d t sl hn hs cs ln rp rn rt z rows asd sm buf bm th od om ow ca bo la pl to rd hh ou x4
def bL_law_23 (sl_ : Nat) (xs : Nat → Int32) (k23 : bw_A2 → bw_A2 → bw_A3 → Int32 → Int32 → bw_A1 → Int32 → Int32 → Int32 → Int32 → bw_A1 → bw_A1 → bw_A1 → Int32 → bw_A1 → Int32 → Int32 → bw_A1 → Int32 → Int32 → Int32 → Int32 → Int32 → Int32 → Int32 → bw_A1 → Int64 → (Nat → Int64) → Int32 → Option Unit) (d : bw_A2) (t : bw_A2) (sl : bw_A3) (hn : Int32) (hs : Int32) (cs : bw_A1) (ln : Int32) (rp : Int32) (rn : Int32) (rt : Int32) (z : bw_A1) (rows : bw_A1) (asd : bw_A1) (sm : Int32) (buf : bw_A1) (bm : Int32) (th : Int32) (od : bw_A1) (om : Int32) (ow : Int32) (ca : Int32) (bo : Int32) (la : Int32) (pl : Int32) (to : Int32) (rd : bw_A1) (hh : Int64) (ou : (Nat → Int64)) (x4 : Int32) : Option Unit :=
  if ((Int32.ofNat sl_) - 4) < x4 then
    some ()
  else
    bw_b1 (bw_rd sl_ xs x4) fun v35 =>
    if (v35 &&& 31) = 0 then
      bw_b1 (bw_rd sl_ xs (x4 + 1)) fun v162 =>
      bw_b1 (bw_rd sl_ xs (x4 + 2)) fun v168 =>
      bw_b6 (fL_open d sl hn hs v162 v168 ou) fun r170 d_170 sl_170 hn_170 hs_170 ou_170 =>
      bw_b1 (bw_rd sl_ xs (x4 + 1)) fun v181 =>
      bw_b1 (bw_rd sl_ xs (x4 + 2)) fun v187 =>
      bw_b5 (fX6_open z rows sm th v181 v187) fun r188 z_188 rows_188 sm_188 th_188 =>
      bw_b1 (fX6_thrown th_188) fun r194 =>
      if r194 = r170 then
        if r170 = 0 then
          if (lg_cmp (ou_170 0) (Int32.toInt64 r188)) = 0 then
            jL_law_221 sl_ xs k23 d_170 t sl_170 hn_170 hs_170 cs ln rp rn rt z_188 rows_188 asd sm_188 buf bm th_188 od om ow ca bo la pl to rd hh ou_170 x4
          else
            none
        else
          jL_law_221 sl_ xs k23 d_170 t sl_170 hn_170 hs_170 cs ln rp rn rt z_188 rows_188 asd sm_188 buf bm th_188 od om ow ca bo la pl to rd hh ou_170 x4
      else
        none
    else
      if (v35 &&& 31) = 1 then
        bw_b1 (bw_rd sl_ xs (x4 + 1)) fun v230 =>
        bw_b1 (bw_rd sl_ xs (x4 + 2)) fun v236 =>
        bw_b6 (fL_plan d sl hn hs v230 v236 ou) fun r238 d_238 sl_238 hn_238 hs_238 ou_238 =>
        bw_b1 (bw_rd sl_ xs (x4 + 1)) fun v249 =>
        bw_b1 (bw_rd sl_ xs (x4 + 2)) fun v255 =>
        bw_b5 (fX6_plan z rows sm th v249 v255) fun r256 z_256 rows_256 sm_256 th_256 =>
        bw_b1 (fX6_thrown th_256) fun r262 =>
        if r262 = r238 then
          if r238 = 0 then
            if (lg_cmp (ou_238 0) (Int32.toInt64 r256)) = 0 then
              jL_law_289 sl_ xs k23 d_238 t sl_238 hn_238 hs_238 cs ln rp rn rt z_256 rows_256 asd sm_256 buf bm th_256 od om ow ca bo la pl to rd hh ou_238 x4
            else
              none
          else
            jL_law_289 sl_ xs k23 d_238 t sl_238 hn_238 hs_238 cs ln rp rn rt z_256 rows_256 asd sm_256 buf bm th_256 od om ow ca bo la pl to rd hh ou_238 x4
        else
          none
      else
        if (v35 &&& 31) = 2 then
          bw_b1 (bw_rd sl_ xs (x4 + 1)) fun v298 =>
          bw_b1 (bw_rd sl_ xs (x4 + 2)) fun v304 =>
          bw_b6 (fL_rank d sl hn hs v298 v304 ou) fun r306 d_306 sl_306 hn_306 hs_306 ou_306 =>
          bw_b1 (bw_rd sl_ xs (x4 + 1)) fun v317 =>
          bw_b1 (bw_rd sl_ xs (x4 + 2)) fun v323 =>
          bw_b5 (fX6_rank z rows sm th v317 v323) fun r324 z_324 rows_324 sm_324 th_324 =>
          bw_b1 (fX6_thrown th_324) fun r330 =>
          if r330 = r306 then
            if r306 = 0 then
              if (lg_cmp (ou_306 0) (Int32.toInt64 r324)) = 0 then
                jL_law_357 sl_ xs k23 d_306 t sl_306 hn_306 hs_306 cs ln rp rn rt z_324 rows_324 asd sm_324 buf bm th_324 od om ow ca bo la pl to rd hh ou_306 x4
              else
                none
            else
              jL_law_357 sl_ xs k23 d_306 t sl_306 hn_306 hs_306 cs ln rp rn rt z_324 rows_324 asd sm_324 buf bm th_324 od om ow ca bo la pl to rd hh ou_306 x4
          else
            none
        else
          if (v35 &&& 31) = 3 then
            bw_b1 (bw_rd sl_ xs (x4 + 1)) fun v366 =>
            bw_b1 (bw_rd sl_ xs (x4 + 2)) fun v372 =>
            bw_b6 (fL_set d sl hn hs v366 v372 ou) fun r374 d_374 sl_374 hn_374 hs_374 ou_374 =>
            bw_b1 (bw_rd sl_ xs (x4 + 1)) fun v385 =>
            bw_b1 (bw_rd sl_ xs (x4 + 2)) fun v391 =>
            bw_b5 (fX6_set z rows sm th v385 v391) fun r392 z_392 rows_392 sm_392 th_392 =>
            bw_b1 (fX6_thrown th_392) fun r398 =>
            if r398 = r374 then
              if r374 = 0 then
                if (lg_cmp (ou_374 0) (Int32.toInt64 r392)) = 0 then
                  jL_law_425 sl_ xs k23 d_374 t sl_374 hn_374 hs_374 cs ln rp rn rt z_392 rows_392 asd sm_392 buf bm th_392 od om ow ca bo la pl to rd hh ou_374 x4
                else
                  none
              else
                jL_law_425 sl_ xs k23 d_374 t sl_374 hn_374 hs_374 cs ln rp rn rt z_392 rows_392 asd sm_392 buf bm th_392 od om ow ca bo la pl to rd hh ou_374 x4
            else
              none
          else
            if (v35 &&& 31) = 4 then
              bw_b1 (bw_rd sl_ xs (x4 + 1)) fun v434 =>
              bw_b1 (bw_rd sl_ xs (x4 + 2)) fun v440 =>
              bw_b6 (fL_done d sl hn hs v434 v440 ou) fun r442 d_442 sl_442 hn_442 hs_442 ou_442 =>
              bw_b1 (bw_rd sl_ xs (x4 + 1)) fun v453 =>
              bw_b1 (bw_rd sl_ xs (x4 + 2)) fun v459 =>
              bw_b11 (fX6_done z rows sm th od om ow ca bo la v453 v459) fun r460 z_460 rows_460 sm_460 th_460 od_460 om_460 ow_460 ca_460 bo_460 la_460 =>
              bw_b1 (fX6_thrown th_460) fun r466 =>
              if r466 = r442 then
                if r442 = 0 then
                  if (lg_cmp (ou_442 0) (Int32.toInt64 r460)) = 0 then
                    jL_law_493 sl_ xs k23 d_442 t sl_442 hn_442 hs_442 cs ln rp rn rt z_460 rows_460 asd sm_460 buf bm th_460 od_460 om_460 ow_460 ca_460 bo_460 la_460 pl to rd hh ou_442 x4
                  else
                    none
                else
                  jL_law_493 sl_ xs k23 d_442 t sl_442 hn_442 hs_442 cs ln rp rn rt z_460 rows_460 asd sm_460 buf bm th_460 od_460 om_460 ow_460 ca_460 bo_460 la_460 pl to rd hh ou_442 x4
              else
                none
            else
              if (v35 &&& 31) = 5 then
                bw_b1 (bw_rd sl_ xs (x4 + 1)) fun v502 =>
                bw_b1 (bw_rd sl_ xs (x4 + 2)) fun v508 =>
                bw_b1 (bw_rd sl_ xs (x4 + 3)) fun v514 =>
                bw_b6 (fL_lend d sl hn hs v502 v508 v514 ou) fun r516 d_516 sl_516 hn_516 hs_516 ou_516 =>
                bw_b1 (bw_rd sl_ xs (x4 + 1)) fun v527 =>
                bw_b1 (bw_rd sl_ xs (x4 + 2)) fun v533 =>
                bw_b1 (bw_rd sl_ xs (x4 + 3)) fun v539 =>
                bw_b5 (fX6_lend z rows sm th v527 v533 v539) fun r540 z_540 rows_540 sm_540 th_540 =>
                bw_b1 (fX6_thrown th_540) fun r546 =>
                if r546 = r516 then
                  if r516 = 0 then
                    if (lg_cmp (ou_516 0) (Int32.toInt64 r540)) = 0 then
                      jL_law_573 sl_ xs k23 d_516 t sl_516 hn_516 hs_516 cs ln rp rn rt z_540 rows_540 asd sm_540 buf bm th_540 od om ow ca bo la pl to rd hh ou_516 x4
                    else
                      none
                  else
                    jL_law_573 sl_ xs k23 d_516 t sl_516 hn_516 hs_516 cs ln rp rn rt z_540 rows_540 asd sm_540 buf bm th_540 od om ow ca bo la pl to rd hh ou_516 x4
                else
                  none
              else
                if (v35 &&& 31) = 6 then
                  bw_b1 (bw_rd sl_ xs (x4 + 1)) fun v582 =>
                  bw_b1 (bw_rd sl_ xs (x4 + 2)) fun v588 =>
                  bw_b1 (bw_rd sl_ xs (x4 + 3)) fun v594 =>
                  bw_b6 (fL_payBack d sl hn hs v582 v588 v594 ou) fun r596 d_596 sl_596 hn_596 hs_596 ou_596 =>
                  bw_b1 (bw_rd sl_ xs (x4 + 1)) fun v607 =>
                  bw_b1 (bw_rd sl_ xs (x4 + 2)) fun v613 =>
                  bw_b1 (bw_rd sl_ xs (x4 + 3)) fun v619 =>
                  bw_b5 (fX6_payBack z rows sm th v607 v613 v619) fun r620 z_620 rows_620 sm_620 th_620 =>
                  bw_b1 (fX6_thrown th_620) fun r626 =>
                  if r626 = r596 then
                    if r596 = 0 then
                      if (lg_cmp (ou_596 0) (Int32.toInt64 r620)) = 0 then
                        jL_law_653 sl_ xs k23 d_596 t sl_596 hn_596 hs_596 cs ln rp rn rt z_620 rows_620 asd sm_620 buf bm th_620 od om ow ca bo la pl to rd hh ou_596 x4
                      else
                        none
                    else
                      jL_law_653 sl_ xs k23 d_596 t sl_596 hn_596 hs_596 cs ln rp rn rt z_620 rows_620 asd sm_620 buf bm th_620 od om ow ca bo la pl to rd hh ou_596 x4
                  else
                    none
                else
                  if (v35 &&& 31) = 7 then
                    bw_b1 (bw_rd sl_ xs (x4 + 1)) fun v662 =>
                    bw_b6 (fL_close d sl hn hs v662 ou) fun r664 d_664 sl_664 hn_664 hs_664 ou_664 =>
                    bw_b1 (bw_rd sl_ xs (x4 + 1)) fun v675 =>
                    bw_b5 (fX6_close z rows sm th v675) fun r676 z_676 rows_676 sm_676 th_676 =>
                    bw_b1 (fX6_thrown th_676) fun r682 =>
                    if r682 = r664 then
                      if r664 = 0 then
                        if (lg_cmp (ou_664 0) (Int32.toInt64 r676)) = 0 then
                          jL_law_709 sl_ xs k23 d_664 t sl_664 hn_664 hs_664 cs ln rp rn rt z_676 rows_676 asd sm_676 buf bm th_676 od om ow ca bo la pl to rd hh ou_664 x4
                        else
                          none
                      else
                        jL_law_709 sl_ xs k23 d_664 t sl_664 hn_664 hs_664 cs ln rp rn rt z_676 rows_676 asd sm_676 buf bm th_676 od om ow ca bo la pl to rd hh ou_664 x4
                    else
                      none
                  else
                    if (v35 &&& 31) = 8 then
                      bw_b1 (bw_rd sl_ xs (x4 + 1)) fun v718 =>
                      bw_b4 (fL_append cs ln v718 ou) fun r720 cs_720 ln_720 ou_720 =>
                      bw_b1 (bw_rd sl_ xs (x4 + 1)) fun v731 =>
                      bw_b4 (fX6_append buf bm th v731) fun r732 buf_732 bm_732 th_732 =>
                      bw_b1 (fX6_thrown th_732) fun r738 =>
                      if r738 = r720 then
                        if r720 = 0 then
                          if (lg_cmp (ou_720 0) (Int32.toInt64 r732)) = 0 then
                            jL_law_765 sl_ xs k23 d t sl hn hs cs_720 ln_720 rp rn rt z rows asd sm buf_732 bm_732 th_732 od om ow ca bo la pl to rd hh ou_720 x4
                          else
                            none
                        else
                          jL_law_765 sl_ xs k23 d t sl hn hs cs_720 ln_720 rp rn rt z rows asd sm buf_732 bm_732 th_732 od om ow ca bo la pl to rd hh ou_720 x4
                      else
                        none
                    else
                      if (v35 &&& 31) = 9 then
                        bw_b2 (fX5_clearBuffer ln) fun r769 ln_769 =>
                        bw_b3 (fX6_clearBuffer bm th) fun r773 bm_773 th_773 =>
                        if r769 = r773 then
                          jL_law_1618 sl_ xs k23 d t sl hn hs cs ln_769 rp rn rt z rows asd sm buf bm_773 th_773 od om ow ca bo la pl to rd hh ou x4
                        else
                          none
                      else
                        if (v35 &&& 31) = 10 then
                          bw_b4 (fX5_firstError cs ln rp rn rt) fun r782 rp_782 rn_782 rt_782 =>
                          bw_b5 (fX6_firstError buf bm th pl to rd) fun r786 th_786 pl_786 to_786 rd_786 =>
                          if r782 = r786 then
                            jL_law_1618 sl_ xs k23 d t sl hn hs cs ln rp_782 rn_782 rt_782 z rows asd sm buf bm th_786 od om ow ca bo la pl_786 to_786 rd_786 hh ou x4
                          else
                            none
                        else
                          if (v35 &&& 31) = 11 then
                            bw_b10 (fL_openAll d sl hn hs cs ln rp rn rt ou) fun r796 d_796 sl_796 hn_796 hs_796 ln_796 rp_796 rn_796 rt_796 ou_796 =>
                            bw_b9 (fX6_openAll z rows sm buf bm th pl to rd) fun r802 z_802 rows_802 sm_802 bm_802 th_802 pl_802 to_802 rd_802 =>
                            bw_b1 (fX6_thrown th_802) fun r808 =>
                            if r808 = r796 then
                              if r796 = 0 then
                                if (lg_cmp (ou_796 0) (Int32.toInt64 r802)) = 0 then
                                  jL_law_835 sl_ xs k23 d_796 t sl_796 hn_796 hs_796 cs ln_796 rp_796 rn_796 rt_796 z_802 rows_802 asd sm_802 buf bm_802 th_802 od om ow ca bo la pl_802 to_802 rd_802 hh ou_796 x4
                                else
                                  none
                              else
                                jL_law_835 sl_ xs k23 d_796 t sl_796 hn_796 hs_796 cs ln_796 rp_796 rn_796 rt_796 z_802 rows_802 asd sm_802 buf bm_802 th_802 od om ow ca bo la pl_802 to_802 rd_802 hh ou_796 x4
                            else
                              none
                          else
                            if (v35 &&& 31) = 12 then
                              bw_b5 (fL_undo d sl hn hs ou) fun r840 d_840 hn_840 hs_840 ou_840 =>
                              bw_b4 (fX6_undo z rows sm th) fun r846 z_846 sm_846 th_846 =>
                              bw_b1 (fX6_thrown th_846) fun r852 =>
                              if r852 = r840 then
                                if r840 = 0 then
                                  if (lg_cmp (ou_840 0) (Int32.toInt64 r846)) = 0 then
                                    jL_law_879 sl_ xs k23 d_840 t sl hn_840 hs_840 cs ln rp rn rt z_846 rows asd sm_846 buf bm th_846 od om ow ca bo la pl to rd hh ou_840 x4
                                  else
                                    none
                                else
                                  jL_law_879 sl_ xs k23 d_840 t sl hn_840 hs_840 cs ln rp rn rt z_846 rows asd sm_846 buf bm th_846 od om ow ca bo la pl to rd hh ou_840 x4
                              else
                                none
                            else
                              if (v35 &&& 31) = 13 then
                                bw_b1 (bw_rd sl_ xs (x4 + 1)) fun v888 =>
                                bw_b1 (bw_rd sl_ xs (x4 + 2)) fun v894 =>
                                bw_b2 (fL_project d v888 v894 ou) fun r896 ou_896 =>
                                bw_b1 (bw_rd sl_ xs (x4 + 1)) fun v907 =>
                                bw_b1 (bw_rd sl_ xs (x4 + 2)) fun v913 =>
                                bw_b2 (fX6_project z th v907 v913) fun r914 th_914 =>
                                bw_b1 (fX6_thrown th_914) fun r920 =>
                                if r920 = r896 then
                                  if r896 = 0 then
                                    if (lg_cmp (ou_896 0) (Int32.toInt64 r914)) = 0 then
                                      jL_law_947 sl_ xs k23 d t sl hn hs cs ln rp rn rt z rows asd sm buf bm th_914 od om ow ca bo la pl to rd hh ou_896 x4
                                    else
                                      none
                                  else
                                    jL_law_947 sl_ xs k23 d t sl hn hs cs ln rp rn rt z rows asd sm buf bm th_914 od om ow ca bo la pl to rd hh ou_896 x4
                                else
                                  none
                              else
                                if (v35 &&& 31) = 14 then
                                  bw_b1 (bw_rd sl_ xs (x4 + 1)) fun v956 =>
                                  bw_b1 (bw_rd sl_ xs (x4 + 2)) fun v962 =>
                                  bw_b1 (bw_rd sl_ xs (x4 + 3)) fun v968 =>
                                  bw_b2 (fL_task d v956 v962 v968 ou) fun r970 ou_970 =>
                                  bw_b1 (bw_rd sl_ xs (x4 + 1)) fun v981 =>
                                  bw_b1 (bw_rd sl_ xs (x4 + 2)) fun v987 =>
                                  bw_b1 (bw_rd sl_ xs (x4 + 3)) fun v993 =>
                                  bw_b2 (fX6_task z th v981 v987 v993) fun r994 th_994 =>
                                  bw_b1 (fX6_thrown th_994) fun r1000 =>
                                  if r1000 = r970 then
                                    if r970 = 0 then
                                      if (lg_cmp (ou_970 0) (Int32.toInt64 r994)) = 0 then
                                        jL_law_1027 sl_ xs k23 d t sl hn hs cs ln rp rn rt z rows asd sm buf bm th_994 od om ow ca bo la pl to rd hh ou_970 x4
                                      else
                                        none
                                    else
                                      jL_law_1027 sl_ xs k23 d t sl hn hs cs ln rp rn rt z rows asd sm buf bm th_994 od om ow ca bo la pl to rd hh ou_970 x4
                                  else
                                    none
                                else
                                  if (v35 &&& 31) = 15 then
                                    bw_b1 (bw_rd sl_ xs (x4 + 1)) fun v1036 =>
                                    bw_b1 (bw_rd sl_ xs (x4 + 2)) fun v1042 =>
                                    bw_b2 (fL_loan d v1036 v1042 ou) fun r1044 ou_1044 =>
                                    bw_b1 (bw_rd sl_ xs (x4 + 1)) fun v1055 =>
                                    bw_b1 (bw_rd sl_ xs (x4 + 2)) fun v1061 =>
                                    bw_b2 (fX6_loan z th v1055 v1061) fun r1062 th_1062 =>
                                    bw_b1 (fX6_thrown th_1062) fun r1068 =>
                                    if r1068 = r1044 then
                                      if r1044 = 0 then
                                        if (lg_cmp (ou_1044 0) (Int32.toInt64 r1062)) = 0 then
                                          jL_law_1095 sl_ xs k23 d t sl hn hs cs ln rp rn rt z rows asd sm buf bm th_1062 od om ow ca bo la pl to rd hh ou_1044 x4
                                        else
                                          none
                                      else
                                        jL_law_1095 sl_ xs k23 d t sl hn hs cs ln rp rn rt z rows asd sm buf bm th_1062 od om ow ca bo la pl to rd hh ou_1044 x4
                                    else
                                      none
                                  else
                                    if (v35 &&& 31) = 16 then
                                      bw_b1 (bw_rd sl_ xs (x4 + 1)) fun v1104 =>
                                      bw_b1 (bw_rd sl_ xs (x4 + 2)) fun v1110 =>
                                      bw_b2 (fL_owed d v1104 v1110 ou) fun r1112 ou_1112 =>
                                      bw_b1 (bw_rd sl_ xs (x4 + 1)) fun v1123 =>
                                      bw_b1 (bw_rd sl_ xs (x4 + 2)) fun v1129 =>
                                      bw_b2 (fX6_owed z th v1123 v1129) fun r1130 th_1130 =>
                                      bw_b1 (fX6_thrown th_1130) fun r1136 =>
                                      if r1136 = r1112 then
                                        if r1112 = 0 then
                                          if (lg_cmp (ou_1112 0) (Int32.toInt64 r1130)) = 0 then
                                            jL_law_1163 sl_ xs k23 d t sl hn hs cs ln rp rn rt z rows asd sm buf bm th_1130 od om ow ca bo la pl to rd hh ou_1112 x4
                                          else
                                            none
                                        else
                                          jL_law_1163 sl_ xs k23 d t sl hn hs cs ln rp rn rt z rows asd sm buf bm th_1130 od om ow ca bo la pl to rd hh ou_1112 x4
                                      else
                                        none
                                    else
                                      if (v35 &&& 31) = 17 then
                                        bw_b1 (bw_rd sl_ xs (x4 + 1)) fun v1172 =>
                                        bw_b1 (bw_rd sl_ xs (x4 + 2)) fun v1178 =>
                                        bw_b3 (fL_lender d v1172 v1178 ou) fun r1180 d_1180 ou_1180 =>
                                        bw_b1 (bw_rd sl_ xs (x4 + 1)) fun v1191 =>
                                        bw_b1 (bw_rd sl_ xs (x4 + 2)) fun v1197 =>
                                        bw_b4 (fX6_lender z th od om v1191 v1197) fun r1198 th_1198 od_1198 om_1198 =>
                                        bw_b1 (fX6_thrown th_1198) fun r1204 =>
                                        if r1204 = r1180 then
                                          if r1180 = 0 then
                                            if (lg_cmp (ou_1180 0) (Int32.toInt64 r1198)) = 0 then
                                              jL_law_1231 sl_ xs k23 d_1180 t sl hn hs cs ln rp rn rt z rows asd sm buf bm th_1198 od_1198 om_1198 ow ca bo la pl to rd hh ou_1180 x4
                                            else
                                              none
                                          else
                                            jL_law_1231 sl_ xs k23 d_1180 t sl hn hs cs ln rp rn rt z rows asd sm buf bm th_1198 od_1198 om_1198 ow ca bo la pl to rd hh ou_1180 x4
                                        else
                                          none
                                      else
                                        if (v35 &&& 31) = 18 then
                                          bw_b1 (bw_rd sl_ xs (x4 + 1)) fun v1240 =>
                                          bw_b2 (fL_count d hs v1240 ou) fun r1242 ou_1242 =>
                                          bw_b1 (bw_rd sl_ xs (x4 + 1)) fun v1253 =>
                                          bw_b2 (fX6_count z sm th v1253) fun r1254 th_1254 =>
                                          bw_b1 (fX6_thrown th_1254) fun r1260 =>
                                          if r1260 = r1242 then
                                            if r1242 = 0 then
                                              if (lg_cmp (ou_1242 0) (Int32.toInt64 r1254)) = 0 then
                                                jL_law_1287 sl_ xs k23 d t sl hn hs cs ln rp rn rt z rows asd sm buf bm th_1254 od om ow ca bo la pl to rd hh ou_1242 x4
                                              else
                                                none
                                            else
                                              jL_law_1287 sl_ xs k23 d t sl hn hs cs ln rp rn rt z rows asd sm buf bm th_1254 od om ow ca bo la pl to rd hh ou_1242 x4
                                          else
                                            none
                                        else
                                          if (v35 &&& 31) = 19 then
                                            bw_b1 (bw_rd sl_ xs (x4 + 1)) fun v1296 =>
                                            bw_b2 (fL_setting d v1296 ou) fun r1298 ou_1298 =>
                                            bw_b1 (bw_rd sl_ xs (x4 + 1)) fun v1309 =>
                                            bw_b2 (fX6_setting z th v1309) fun r1310 th_1310 =>
                                            bw_b1 (fX6_thrown th_1310) fun r1316 =>
                                            if r1316 = r1298 then
                                              if r1298 = 0 then
                                                if (lg_cmp (ou_1298 0) (Int32.toInt64 r1310)) = 0 then
                                                  jL_law_1343 sl_ xs k23 d t sl hn hs cs ln rp rn rt z rows asd sm buf bm th_1310 od om ow ca bo la pl to rd hh ou_1298 x4
                                                else
                                                  none
                                              else
                                                jL_law_1343 sl_ xs k23 d t sl hn hs cs ln rp rn rt z rows asd sm buf bm th_1310 od om ow ca bo la pl to rd hh ou_1298 x4
                                            else
                                              none
                                          else
                                            if (v35 &&& 31) = 20 then
                                              bw_b1 (bw_rd sl_ xs (x4 + 1)) fun v1352 =>
                                              bw_b1 (bw_rd sl_ xs (x4 + 2)) fun v1358 =>
                                              bw_b1 (bw_rd sl_ xs (x4 + 3)) fun v1364 =>
                                              bw_b3 (fL_ifDone d t v1352 v1358 v1364 ou) fun r1366 t_1366 ou_1366 =>
                                              bw_b1 (bw_rd sl_ xs (x4 + 1)) fun v1377 =>
                                              bw_b1 (bw_rd sl_ xs (x4 + 2)) fun v1383 =>
                                              bw_b1 (bw_rd sl_ xs (x4 + 3)) fun v1389 =>
                                              bw_b10 (fX6_ifDone z asd th od om ow ca bo la v1377 v1383 v1389) fun r1390 z_1390 asd_1390 th_1390 od_1390 om_1390 ow_1390 ca_1390 bo_1390 la_1390 =>
                                              bw_b1 (fX6_thrown th_1390) fun r1396 =>
                                              if r1396 = r1366 then
                                                if r1366 = 0 then
                                                  if (lg_cmp (ou_1366 0) (Int32.toInt64 r1390)) = 0 then
                                                    jL_law_1423 sl_ xs k23 d t_1366 sl hn hs cs ln rp rn rt z_1390 rows asd_1390 sm buf bm th_1390 od_1390 om_1390 ow_1390 ca_1390 bo_1390 la_1390 pl to rd hh ou_1366 x4
                                                  else
                                                    none
                                                else
                                                  jL_law_1423 sl_ xs k23 d t_1366 sl hn hs cs ln rp rn rt z_1390 rows asd_1390 sm buf bm th_1390 od_1390 om_1390 ow_1390 ca_1390 bo_1390 la_1390 pl to rd hh ou_1366 x4
                                              else
                                                none
                                            else
                                              if (v35 &&& 31) = 21 then
                                                bw_b1 (bw_rd sl_ xs (x4 + 1)) fun v1432 =>
                                                bw_b2 (fL_bears d v1432 ou) fun r1434 ou_1434 =>
                                                bw_b1 (bw_rd sl_ xs (x4 + 1)) fun v1445 =>
                                                bw_b10 (fX6_bears z asd th od om ow ca bo la v1445) fun r1446 z_1446 asd_1446 th_1446 od_1446 om_1446 ow_1446 ca_1446 bo_1446 la_1446 =>
                                                bw_b1 (fX6_thrown th_1446) fun r1452 =>
                                                if r1452 = r1434 then
                                                  if r1434 = 0 then
                                                    if (lg_cmp (ou_1434 0) (Int32.toInt64 r1446)) = 0 then
                                                      jL_law_1479 sl_ xs k23 d t sl hn hs cs ln rp rn rt z_1446 rows asd_1446 sm buf bm th_1446 od_1446 om_1446 ow_1446 ca_1446 bo_1446 la_1446 pl to rd hh ou_1434 x4
                                                    else
                                                      none
                                                  else
                                                    jL_law_1479 sl_ xs k23 d t sl hn hs cs ln rp rn rt z_1446 rows asd_1446 sm buf bm th_1446 od_1446 om_1446 ow_1446 ca_1446 bo_1446 la_1446 pl to rd hh ou_1434 x4
                                                else
                                                  none
                                              else
                                                if (v35 &&& 31) = 22 then
                                                  bw_b1 (fX5_weakest d) fun r1483 =>
                                                  bw_b10 (fX6_weakest z asd th od om ow ca bo la) fun r1487 z_1487 asd_1487 th_1487 od_1487 om_1487 ow_1487 ca_1487 bo_1487 la_1487 =>
                                                  if r1483 = r1487 then
                                                    jL_law_1618 sl_ xs k23 d t sl hn hs cs ln rp rn rt z_1487 rows asd_1487 sm buf bm th_1487 od_1487 om_1487 ow_1487 ca_1487 bo_1487 la_1487 pl to rd hh ou x4
                                                  else
                                                    none
                                                else
                                                  if (v35 &&& 31) = 23 then
                                                    bw_b1 (bw_rd sl_ xs (x4 + 1)) fun v1501 =>
                                                    bw_b1 (bw_rd sl_ xs (x4 + 2)) fun v1507 =>
                                                    bw_b3 (fL_bestRule d t v1501 v1507 ou) fun r1509 t_1509 ou_1509 =>
                                                    bw_b1 (bw_rd sl_ xs (x4 + 1)) fun v1520 =>
                                                    bw_b1 (bw_rd sl_ xs (x4 + 2)) fun v1526 =>
                                                    bw_b10 (fX6_bestRule z asd th od om ow ca bo la v1520 v1526) fun r1527 z_1527 asd_1527 th_1527 od_1527 om_1527 ow_1527 ca_1527 bo_1527 la_1527 =>
                                                    bw_b1 (fX6_thrown th_1527) fun r1533 =>
                                                    if r1533 = r1509 then
                                                      if r1509 = 0 then
                                                        if (lg_cmp (ou_1509 0) (Int32.toInt64 r1527)) = 0 then
                                                          jL_law_1560 sl_ xs k23 d t_1509 sl hn hs cs ln rp rn rt z_1527 rows asd_1527 sm buf bm th_1527 od_1527 om_1527 ow_1527 ca_1527 bo_1527 la_1527 pl to rd hh ou_1509 x4
                                                        else
                                                          none
                                                      else
                                                        jL_law_1560 sl_ xs k23 d t_1509 sl hn hs cs ln rp rn rt z_1527 rows asd_1527 sm buf bm th_1527 od_1527 om_1527 ow_1527 ca_1527 bo_1527 la_1527 pl to rd hh ou_1509 x4
                                                    else
                                                      none
                                                  else
                                                    if (v35 &&& 31) = 24 then
                                                      bw_b1 (fX5_lateShare d) fun r1564 =>
                                                      bw_b2 (fX6_lateShare z th) fun r1570 th_1570 =>
                                                      if (Op.cmpValue (FP.dcmp r1564 r1570) CmpOp.l) = 0 then
                                                        jL_law_1601 sl_ xs k23 d t sl hn hs cs ln rp rn rt z rows asd sm buf bm th_1570 od om ow ca bo la pl to rd hh ou x4
                                                      else
                                                        if (Op.cmpValue (FP.dcmp r1564 r1564) CmpOp.l) = 0 then
                                                          none
                                                        else
                                                          if (Op.cmpValue (FP.dcmp r1570 r1570) CmpOp.l) = 0 then
                                                            none
                                                          else
                                                            jL_law_1601 sl_ xs k23 d t sl hn hs cs ln rp rn rt z rows asd sm buf bm th_1570 od om ow ca bo la pl to rd hh ou x4
                                                    else
                                                      if (v35 &&& 31) = 25 then
                                                        bw_b3 (fX5_digest d t hs cs ln) fun r1605 d_1605 t_1605 =>
                                                        bw_b11 (fX6_digest z asd sm buf bm th od om ow ca bo la hh) fun r1609 z_1609 asd_1609 th_1609 od_1609 om_1609 ow_1609 ca_1609 bo_1609 la_1609 hh_1609 =>
                                                        if (lg_cmp r1605 r1609) = 0 then
                                                          jL_law_1618 sl_ xs k23 d_1605 t_1605 sl hn hs cs ln rp rn rt z_1609 rows asd_1609 sm buf bm th_1609 od_1609 om_1609 ow_1609 ca_1609 bo_1609 la_1609 pl to rd hh_1609 ou x4
                                                        else
                                                          none
                                                      else
                                                        jL_law_1618 sl_ xs k23 d t sl hn hs cs ln rp rn rt z rows asd sm buf bm th od om ow ca bo la pl to rd hh ou x4
def lL_law_23 (sl_ : Nat) (xs : Nat → Int32) : Nat → bw_A2 → bw_A2 → bw_A3 → Int32 → Int32 → bw_A1 → Int32 → Int32 → Int32 → Int32 → bw_A1 → bw_A1 → bw_A1 → Int32 → bw_A1 → Int32 → Int32 → bw_A1 → Int32 → Int32 → Int32 → Int32 → Int32 → Int32 → Int32 → bw_A1 → Int64 → (Nat → Int64) → Int32 → Option Unit
  | 0 => fun _ _ _ _ _ _ _ _ _ _ _ _ _ _ _ _ _ _ _ _ _ _ _ _ _ _ _ _ _ => none
  | n + 1 => bL_law_23 sl_ xs (lL_law_23 sl_ xs n)
