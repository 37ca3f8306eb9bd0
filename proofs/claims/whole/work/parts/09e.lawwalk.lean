set_option maxHeartbeats 4000000 in
set_option maxRecDepth 100000 in
theorem jL_law_1618_w {p : Program} {e : Env} {s : State} {m : MethodId} {below : List Frame} {meth : Method} {c : Code} (l : Launch) (hfl : l.stackTraces = false) (G : va_G) (cy : Nat → ClassId) (g : Nat) (b : Nat → Nat → Nat) (a : Nat → Nat) (o : Nat) (bs sl_ : Nat) (xs : Nat → Int32) {x0 : Cond} {A : Nat → Prop} (S : CallFix p m c code 9 s #[Value.ref bs] (x0 :: bw_L) RL) (hr : meth.sig.returnType = ret) (hlocks : meth.locks = false) (hK : va_K G vwCl (bw_tys cy) s) (hZ : bw_Z g A s s.heap) (hX : va_X bs sl_ xs s s.heap) (hbl : bs < s.heap.size) (hbA : ¬ A bs) (hA9 : ∀ q, A q → s.heap.size ≤ q) : ∀ (nn : Nat) (h9 : nn + 1 ≤ 5000) (d : bw_A2) (t : bw_A2) (sl : bw_A3) (hn : Int32) (hs : Int32) (cs : bw_A1) (ln : Int32) (rp : Int32) (rn : Int32) (rt : Int32) (z : bw_A1) (rows : bw_A1) (asd : bw_A1) (sm : Int32) (buf : bw_A1) (bm : Int32) (th : Int32) (od : bw_A1) (om : Int32) (ow : Int32) (ca : Int32) (bo : Int32) (la : Int32) (pl : Int32) (to : Int32) (rd : bw_A1) (hh : Int64) (ou : (Nat → Int64)) (x4 : Int32) (k23 : bw_A2 → bw_A2 → bw_A3 → Int32 → Int32 → bw_A1 → Int32 → Int32 → Int32 → Int32 → bw_A1 → bw_A1 → bw_A1 → Int32 → bw_A1 → Int32 → Int32 → bw_A1 → Int32 → Int32 → Int32 → Int32 → Int32 → Int32 → Int32 → bw_A1 → Int64 → (Nat → Int64) → Int32 → Option Unit) (hk23 : (∀ (H : Heap) (locs : List Loc) (ls : Array Slot) (d : bw_A2) (t : bw_A2) (sl : bw_A3) (hn : Int32) (hs : Int32) (cs : bw_A1) (ln : Int32) (rp : Int32) (rn : Int32) (rt : Int32) (z : bw_A1) (rows : bw_A1) (asd : bw_A1) (sm : Int32) (buf : bw_A1) (bm : Int32) (th : Int32) (od : bw_A1) (om : Int32) (ow : Int32) (ca : Int32) (bo : Int32) (la : Int32) (pl : Int32) (to : Int32) (rd : bw_A1) (hh : Int64) (ou : (Nat → Int64)) (x4 : Int32), k23 d t sl hn hs cs ln rp rn rt z rows asd sm buf bm th od om ow ca bo la pl to rd hh ou x4 = some () → bw_I G A s.heap (bw_lW cy b a o d t sl hn hs cs ln rp rn rt z rows asd sm buf bm th od om ow ca bo la pl to rd hh ou) H locs → lv_has ls 9 [(0, .ref bs), (1, .ref (b 8 5)), (2, .ref (a 0)), (3, .ref o), (4, .int x4)] → W p l e room_1 s m #[Value.ref bs] below meth c H locs (601024 - 4 * nn) (7293034 - 24 * nn) (lw_Z below #[Value.ref bs] s) (F0 m 23 ls []))) (H : Heap) (locs : List Loc) (ls : Array Slot), jL_law_1618 sl_ xs k23 d t sl hn hs cs ln rp rn rt z rows asd sm buf bm th od om ow ca bo la pl to rd hh ou x4 = some () → bw_I G A s.heap (bw_lW cy b a o d t sl hn hs cs ln rp rn rt z rows asd sm buf bm th od om ow ca bo la pl to rd hh ou) H locs → lv_has ls 9 [(0, .ref bs), (1, .ref (b 8 5)), (2, .ref (a 0)), (3, .ref o), (4, .int x4)] → W p l e room_1 s m #[Value.ref bs] below meth c H locs (601024 - 4 * nn) (7293034 - 24 * nn) (lw_Z below #[Value.ref bs] s) (F0 m 1618 ls []) := by
  intro nn h9 d t sl hn hs cs ln rp rn rt z rows asd sm buf bm th od om ow ca bo la pl to rd hh ou x4 k23 hk23 H locs ls h hI hl
  have hx := S.1
  have hb := S.2.1
  have hown := S.2.2.2.1
  have hts := S.2.2.2.2
  unfold jL_law_1618 at h
  obtain ⟨x4_1618, e_1618⟩ : ∃ y : Int32, y = x4 + 4 := ⟨_, rfl⟩
  have h := bw_let_e h e_1618
  refine lv_iinc (v := x4_1618) (lv' := [(4, .int x4_1618), (0, .ref bs), (1, .ref (b 8 5)), (2, .ref (a 0)), (3, .ref o)]) hx hb dL_law_1618 hl (k := 4) rfl (by rw [e_1618]; rfl) (by decide) rfl (fun ls hl => ?_)
  clear e_1618
  refine lv_goto (tgt := 23) hx hb dL_law_1621 (by decide) ?_
  exact hk23 _ _ _ d t sl hn hs cs ln rp rn rt z rows asd sm buf bm th od om ow ca bo la pl to rd hh ou x4_1618 h hI (lv_sub hl [1,2,3,4,0] rfl)
set_option maxHeartbeats 4000000 in
set_option maxRecDepth 100000 in
theorem jL_law_221_w {p : Program} {e : Env} {s : State} {m : MethodId} {below : List Frame} {meth : Method} {c : Code} (l : Launch) (hfl : l.stackTraces = false) (G : va_G) (cy : Nat → ClassId) (g : Nat) (b : Nat → Nat → Nat) (a : Nat → Nat) (o : Nat) (bs sl_ : Nat) (xs : Nat → Int32) {x0 : Cond} {A : Nat → Prop} (S : CallFix p m c code 9 s #[Value.ref bs] (x0 :: bw_L) RL) (hr : meth.sig.returnType = ret) (hlocks : meth.locks = false) (hK : va_K G vwCl (bw_tys cy) s) (hZ : bw_Z g A s s.heap) (hX : va_X bs sl_ xs s s.heap) (hbl : bs < s.heap.size) (hbA : ¬ A bs) (hA9 : ∀ q, A q → s.heap.size ≤ q) : ∀ (nn : Nat) (h9 : nn + 1 ≤ 5000) (d : bw_A2) (t : bw_A2) (sl : bw_A3) (hn : Int32) (hs : Int32) (cs : bw_A1) (ln : Int32) (rp : Int32) (rn : Int32) (rt : Int32) (z : bw_A1) (rows : bw_A1) (asd : bw_A1) (sm : Int32) (buf : bw_A1) (bm : Int32) (th : Int32) (od : bw_A1) (om : Int32) (ow : Int32) (ca : Int32) (bo : Int32) (la : Int32) (pl : Int32) (to : Int32) (rd : bw_A1) (hh : Int64) (ou : (Nat → Int64)) (x4 : Int32) (k23 : bw_A2 → bw_A2 → bw_A3 → Int32 → Int32 → bw_A1 → Int32 → Int32 → Int32 → Int32 → bw_A1 → bw_A1 → bw_A1 → Int32 → bw_A1 → Int32 → Int32 → bw_A1 → Int32 → Int32 → Int32 → Int32 → Int32 → Int32 → Int32 → bw_A1 → Int64 → (Nat → Int64) → Int32 → Option Unit) (hk23 : (∀ (H : Heap) (locs : List Loc) (ls : Array Slot) (d : bw_A2) (t : bw_A2) (sl : bw_A3) (hn : Int32) (hs : Int32) (cs : bw_A1) (ln : Int32) (rp : Int32) (rn : Int32) (rt : Int32) (z : bw_A1) (rows : bw_A1) (asd : bw_A1) (sm : Int32) (buf : bw_A1) (bm : Int32) (th : Int32) (od : bw_A1) (om : Int32) (ow : Int32) (ca : Int32) (bo : Int32) (la : Int32) (pl : Int32) (to : Int32) (rd : bw_A1) (hh : Int64) (ou : (Nat → Int64)) (x4 : Int32), k23 d t sl hn hs cs ln rp rn rt z rows asd sm buf bm th od om ow ca bo la pl to rd hh ou x4 = some () → bw_I G A s.heap (bw_lW cy b a o d t sl hn hs cs ln rp rn rt z rows asd sm buf bm th od om ow ca bo la pl to rd hh ou) H locs → lv_has ls 9 [(0, .ref bs), (1, .ref (b 8 5)), (2, .ref (a 0)), (3, .ref o), (4, .int x4)] → W p l e room_1 s m #[Value.ref bs] below meth c H locs (601024 - 4 * nn) (7293034 - 24 * nn) (lw_Z below #[Value.ref bs] s) (F0 m 23 ls []))) (H : Heap) (locs : List Loc) (ls : Array Slot), jL_law_221 sl_ xs k23 d t sl hn hs cs ln rp rn rt z rows asd sm buf bm th od om ow ca bo la pl to rd hh ou x4 = some () → bw_I G A s.heap (bw_lW cy b a o d t sl hn hs cs ln rp rn rt z rows asd sm buf bm th od om ow ca bo la pl to rd hh ou) H locs → lv_has ls 9 [(0, .ref bs), (1, .ref (b 8 5)), (2, .ref (a 0)), (3, .ref o), (4, .int x4)] → W p l e room_1 s m #[Value.ref bs] below meth c H locs (601024 - 4 * nn) (7293034 - 24 * nn) (lw_Z below #[Value.ref bs] s) (F0 m 221 ls []) := by
  intro nn h9 d t sl hn hs cs ln rp rn rt z rows asd sm buf bm th od om ow ca bo la pl to rd hh ou x4 k23 hk23 H locs ls h hI hl
  have hx := S.1
  have hb := S.2.1
  have hown := S.2.2.2.1
  have hts := S.2.2.2.2
  unfold jL_law_221 at h
  refine lv_goto (tgt := 1618) hx hb dL_law_221 (by decide) ?_
  refine W.widen (k := 601024 - 4 * nn) (n := 7293034 - 24 * nn) (by omega) (by omega) ?_
  exact jL_law_1618_w l hfl G cy g b a o bs sl_ xs S hr hlocks hK hZ hX hbl hbA hA9 nn h9 d t sl hn hs cs ln rp rn rt z rows asd sm buf bm th od om ow ca bo la pl to rd hh ou x4 k23 hk23 _ _ _ h hI (lv_sub hl [0,1,2,3,4] rfl)
set_option maxHeartbeats 4000000 in
set_option maxRecDepth 100000 in
theorem jL_law_289_w {p : Program} {e : Env} {s : State} {m : MethodId} {below : List Frame} {meth : Method} {c : Code} (l : Launch) (hfl : l.stackTraces = false) (G : va_G) (cy : Nat → ClassId) (g : Nat) (b : Nat → Nat → Nat) (a : Nat → Nat) (o : Nat) (bs sl_ : Nat) (xs : Nat → Int32) {x0 : Cond} {A : Nat → Prop} (S : CallFix p m c code 9 s #[Value.ref bs] (x0 :: bw_L) RL) (hr : meth.sig.returnType = ret) (hlocks : meth.locks = false) (hK : va_K G vwCl (bw_tys cy) s) (hZ : bw_Z g A s s.heap) (hX : va_X bs sl_ xs s s.heap) (hbl : bs < s.heap.size) (hbA : ¬ A bs) (hA9 : ∀ q, A q → s.heap.size ≤ q) : ∀ (nn : Nat) (h9 : nn + 1 ≤ 5000) (d : bw_A2) (t : bw_A2) (sl : bw_A3) (hn : Int32) (hs : Int32) (cs : bw_A1) (ln : Int32) (rp : Int32) (rn : Int32) (rt : Int32) (z : bw_A1) (rows : bw_A1) (asd : bw_A1) (sm : Int32) (buf : bw_A1) (bm : Int32) (th : Int32) (od : bw_A1) (om : Int32) (ow : Int32) (ca : Int32) (bo : Int32) (la : Int32) (pl : Int32) (to : Int32) (rd : bw_A1) (hh : Int64) (ou : (Nat → Int64)) (x4 : Int32) (k23 : bw_A2 → bw_A2 → bw_A3 → Int32 → Int32 → bw_A1 → Int32 → Int32 → Int32 → Int32 → bw_A1 → bw_A1 → bw_A1 → Int32 → bw_A1 → Int32 → Int32 → bw_A1 → Int32 → Int32 → Int32 → Int32 → Int32 → Int32 → Int32 → bw_A1 → Int64 → (Nat → Int64) → Int32 → Option Unit) (hk23 : (∀ (H : Heap) (locs : List Loc) (ls : Array Slot) (d : bw_A2) (t : bw_A2) (sl : bw_A3) (hn : Int32) (hs : Int32) (cs : bw_A1) (ln : Int32) (rp : Int32) (rn : Int32) (rt : Int32) (z : bw_A1) (rows : bw_A1) (asd : bw_A1) (sm : Int32) (buf : bw_A1) (bm : Int32) (th : Int32) (od : bw_A1) (om : Int32) (ow : Int32) (ca : Int32) (bo : Int32) (la : Int32) (pl : Int32) (to : Int32) (rd : bw_A1) (hh : Int64) (ou : (Nat → Int64)) (x4 : Int32), k23 d t sl hn hs cs ln rp rn rt z rows asd sm buf bm th od om ow ca bo la pl to rd hh ou x4 = some () → bw_I G A s.heap (bw_lW cy b a o d t sl hn hs cs ln rp rn rt z rows asd sm buf bm th od om ow ca bo la pl to rd hh ou) H locs → lv_has ls 9 [(0, .ref bs), (1, .ref (b 8 5)), (2, .ref (a 0)), (3, .ref o), (4, .int x4)] → W p l e room_1 s m #[Value.ref bs] below meth c H locs (601024 - 4 * nn) (7293034 - 24 * nn) (lw_Z below #[Value.ref bs] s) (F0 m 23 ls []))) (H : Heap) (locs : List Loc) (ls : Array Slot), jL_law_289 sl_ xs k23 d t sl hn hs cs ln rp rn rt z rows asd sm buf bm th od om ow ca bo la pl to rd hh ou x4 = some () → bw_I G A s.heap (bw_lW cy b a o d t sl hn hs cs ln rp rn rt z rows asd sm buf bm th od om ow ca bo la pl to rd hh ou) H locs → lv_has ls 9 [(0, .ref bs), (1, .ref (b 8 5)), (2, .ref (a 0)), (3, .ref o), (4, .int x4)] → W p l e room_1 s m #[Value.ref bs] below meth c H locs (601024 - 4 * nn) (7293034 - 24 * nn) (lw_Z below #[Value.ref bs] s) (F0 m 289 ls []) := by
  intro nn h9 d t sl hn hs cs ln rp rn rt z rows asd sm buf bm th od om ow ca bo la pl to rd hh ou x4 k23 hk23 H locs ls h hI hl
  have hx := S.1
  have hb := S.2.1
  have hown := S.2.2.2.1
  have hts := S.2.2.2.2
  unfold jL_law_289 at h
  refine lv_goto (tgt := 1618) hx hb dL_law_289 (by decide) ?_
  refine W.widen (k := 601024 - 4 * nn) (n := 7293034 - 24 * nn) (by omega) (by omega) ?_
  exact jL_law_1618_w l hfl G cy g b a o bs sl_ xs S hr hlocks hK hZ hX hbl hbA hA9 nn h9 d t sl hn hs cs ln rp rn rt z rows asd sm buf bm th od om ow ca bo la pl to rd hh ou x4 k23 hk23 _ _ _ h hI (lv_sub hl [0,1,2,3,4] rfl)
set_option maxHeartbeats 4000000 in
set_option maxRecDepth 100000 in
theorem jL_law_357_w {p : Program} {e : Env} {s : State} {m : MethodId} {below : List Frame} {meth : Method} {c : Code} (l : Launch) (hfl : l.stackTraces = false) (G : va_G) (cy : Nat → ClassId) (g : Nat) (b : Nat → Nat → Nat) (a : Nat → Nat) (o : Nat) (bs sl_ : Nat) (xs : Nat → Int32) {x0 : Cond} {A : Nat → Prop} (S : CallFix p m c code 9 s #[Value.ref bs] (x0 :: bw_L) RL) (hr : meth.sig.returnType = ret) (hlocks : meth.locks = false) (hK : va_K G vwCl (bw_tys cy) s) (hZ : bw_Z g A s s.heap) (hX : va_X bs sl_ xs s s.heap) (hbl : bs < s.heap.size) (hbA : ¬ A bs) (hA9 : ∀ q, A q → s.heap.size ≤ q) : ∀ (nn : Nat) (h9 : nn + 1 ≤ 5000) (d : bw_A2) (t : bw_A2) (sl : bw_A3) (hn : Int32) (hs : Int32) (cs : bw_A1) (ln : Int32) (rp : Int32) (rn : Int32) (rt : Int32) (z : bw_A1) (rows : bw_A1) (asd : bw_A1) (sm : Int32) (buf : bw_A1) (bm : Int32) (th : Int32) (od : bw_A1) (om : Int32) (ow : Int32) (ca : Int32) (bo : Int32) (la : Int32) (pl : Int32) (to : Int32) (rd : bw_A1) (hh : Int64) (ou : (Nat → Int64)) (x4 : Int32) (k23 : bw_A2 → bw_A2 → bw_A3 → Int32 → Int32 → bw_A1 → Int32 → Int32 → Int32 → Int32 → bw_A1 → bw_A1 → bw_A1 → Int32 → bw_A1 → Int32 → Int32 → bw_A1 → Int32 → Int32 → Int32 → Int32 → Int32 → Int32 → Int32 → bw_A1 → Int64 → (Nat → Int64) → Int32 → Option Unit) (hk23 : (∀ (H : Heap) (locs : List Loc) (ls : Array Slot) (d : bw_A2) (t : bw_A2) (sl : bw_A3) (hn : Int32) (hs : Int32) (cs : bw_A1) (ln : Int32) (rp : Int32) (rn : Int32) (rt : Int32) (z : bw_A1) (rows : bw_A1) (asd : bw_A1) (sm : Int32) (buf : bw_A1) (bm : Int32) (th : Int32) (od : bw_A1) (om : Int32) (ow : Int32) (ca : Int32) (bo : Int32) (la : Int32) (pl : Int32) (to : Int32) (rd : bw_A1) (hh : Int64) (ou : (Nat → Int64)) (x4 : Int32), k23 d t sl hn hs cs ln rp rn rt z rows asd sm buf bm th od om ow ca bo la pl to rd hh ou x4 = some () → bw_I G A s.heap (bw_lW cy b a o d t sl hn hs cs ln rp rn rt z rows asd sm buf bm th od om ow ca bo la pl to rd hh ou) H locs → lv_has ls 9 [(0, .ref bs), (1, .ref (b 8 5)), (2, .ref (a 0)), (3, .ref o), (4, .int x4)] → W p l e room_1 s m #[Value.ref bs] below meth c H locs (601024 - 4 * nn) (7293034 - 24 * nn) (lw_Z below #[Value.ref bs] s) (F0 m 23 ls []))) (H : Heap) (locs : List Loc) (ls : Array Slot), jL_law_357 sl_ xs k23 d t sl hn hs cs ln rp rn rt z rows asd sm buf bm th od om ow ca bo la pl to rd hh ou x4 = some () → bw_I G A s.heap (bw_lW cy b a o d t sl hn hs cs ln rp rn rt z rows asd sm buf bm th od om ow ca bo la pl to rd hh ou) H locs → lv_has ls 9 [(0, .ref bs), (1, .ref (b 8 5)), (2, .ref (a 0)), (3, .ref o), (4, .int x4)] → W p l e room_1 s m #[Value.ref bs] below meth c H locs (601024 - 4 * nn) (7293034 - 24 * nn) (lw_Z below #[Value.ref bs] s) (F0 m 357 ls []) := by
  intro nn h9 d t sl hn hs cs ln rp rn rt z rows asd sm buf bm th od om ow ca bo la pl to rd hh ou x4 k23 hk23 H locs ls h hI hl
  have hx := S.1
  have hb := S.2.1
  have hown := S.2.2.2.1
  have hts := S.2.2.2.2
  unfold jL_law_357 at h
  refine lv_goto (tgt := 1618) hx hb dL_law_357 (by decide) ?_
  refine W.widen (k := 601024 - 4 * nn) (n := 7293034 - 24 * nn) (by omega) (by omega) ?_
  exact jL_law_1618_w l hfl G cy g b a o bs sl_ xs S hr hlocks hK hZ hX hbl hbA hA9 nn h9 d t sl hn hs cs ln rp rn rt z rows asd sm buf bm th od om ow ca bo la pl to rd hh ou x4 k23 hk23 _ _ _ h hI (lv_sub hl [0,1,2,3,4] rfl)
set_option maxHeartbeats 4000000 in
set_option maxRecDepth 100000 in
theorem jL_law_425_w {p : Program} {e : Env} {s : State} {m : MethodId} {below : List Frame} {meth : Method} {c : Code} (l : Launch) (hfl : l.stackTraces = false) (G : va_G) (cy : Nat → ClassId) (g : Nat) (b : Nat → Nat → Nat) (a : Nat → Nat) (o : Nat) (bs sl_ : Nat) (xs : Nat → Int32) {x0 : Cond} {A : Nat → Prop} (S : CallFix p m c code 9 s #[Value.ref bs] (x0 :: bw_L) RL) (hr : meth.sig.returnType = ret) (hlocks : meth.locks = false) (hK : va_K G vwCl (bw_tys cy) s) (hZ : bw_Z g A s s.heap) (hX : va_X bs sl_ xs s s.heap) (hbl : bs < s.heap.size) (hbA : ¬ A bs) (hA9 : ∀ q, A q → s.heap.size ≤ q) : ∀ (nn : Nat) (h9 : nn + 1 ≤ 5000) (d : bw_A2) (t : bw_A2) (sl : bw_A3) (hn : Int32) (hs : Int32) (cs : bw_A1) (ln : Int32) (rp : Int32) (rn : Int32) (rt : Int32) (z : bw_A1) (rows : bw_A1) (asd : bw_A1) (sm : Int32) (buf : bw_A1) (bm : Int32) (th : Int32) (od : bw_A1) (om : Int32) (ow : Int32) (ca : Int32) (bo : Int32) (la : Int32) (pl : Int32) (to : Int32) (rd : bw_A1) (hh : Int64) (ou : (Nat → Int64)) (x4 : Int32) (k23 : bw_A2 → bw_A2 → bw_A3 → Int32 → Int32 → bw_A1 → Int32 → Int32 → Int32 → Int32 → bw_A1 → bw_A1 → bw_A1 → Int32 → bw_A1 → Int32 → Int32 → bw_A1 → Int32 → Int32 → Int32 → Int32 → Int32 → Int32 → Int32 → bw_A1 → Int64 → (Nat → Int64) → Int32 → Option Unit) (hk23 : (∀ (H : Heap) (locs : List Loc) (ls : Array Slot) (d : bw_A2) (t : bw_A2) (sl : bw_A3) (hn : Int32) (hs : Int32) (cs : bw_A1) (ln : Int32) (rp : Int32) (rn : Int32) (rt : Int32) (z : bw_A1) (rows : bw_A1) (asd : bw_A1) (sm : Int32) (buf : bw_A1) (bm : Int32) (th : Int32) (od : bw_A1) (om : Int32) (ow : Int32) (ca : Int32) (bo : Int32) (la : Int32) (pl : Int32) (to : Int32) (rd : bw_A1) (hh : Int64) (ou : (Nat → Int64)) (x4 : Int32), k23 d t sl hn hs cs ln rp rn rt z rows asd sm buf bm th od om ow ca bo la pl to rd hh ou x4 = some () → bw_I G A s.heap (bw_lW cy b a o d t sl hn hs cs ln rp rn rt z rows asd sm buf bm th od om ow ca bo la pl to rd hh ou) H locs → lv_has ls 9 [(0, .ref bs), (1, .ref (b 8 5)), (2, .ref (a 0)), (3, .ref o), (4, .int x4)] → W p l e room_1 s m #[Value.ref bs] below meth c H locs (601024 - 4 * nn) (7293034 - 24 * nn) (lw_Z below #[Value.ref bs] s) (F0 m 23 ls []))) (H : Heap) (locs : List Loc) (ls : Array Slot), jL_law_425 sl_ xs k23 d t sl hn hs cs ln rp rn rt z rows asd sm buf bm th od om ow ca bo la pl to rd hh ou x4 = some () → bw_I G A s.heap (bw_lW cy b a o d t sl hn hs cs ln rp rn rt z rows asd sm buf bm th od om ow ca bo la pl to rd hh ou) H locs → lv_has ls 9 [(0, .ref bs), (1, .ref (b 8 5)), (2, .ref (a 0)), (3, .ref o), (4, .int x4)] → W p l e room_1 s m #[Value.ref bs] below meth c H locs (601024 - 4 * nn) (7293034 - 24 * nn) (lw_Z below #[Value.ref bs] s) (F0 m 425 ls []) := by
  intro nn h9 d t sl hn hs cs ln rp rn rt z rows asd sm buf bm th od om ow ca bo la pl to rd hh ou x4 k23 hk23 H locs ls h hI hl
  have hx := S.1
  have hb := S.2.1
  have hown := S.2.2.2.1
  have hts := S.2.2.2.2
  unfold jL_law_425 at h
  refine lv_goto (tgt := 1618) hx hb dL_law_425 (by decide) ?_
  refine W.widen (k := 601024 - 4 * nn) (n := 7293034 - 24 * nn) (by omega) (by omega) ?_
  exact jL_law_1618_w l hfl G cy g b a o bs sl_ xs S hr hlocks hK hZ hX hbl hbA hA9 nn h9 d t sl hn hs cs ln rp rn rt z rows asd sm buf bm th od om ow ca bo la pl to rd hh ou x4 k23 hk23 _ _ _ h hI (lv_sub hl [0,1,2,3,4] rfl)
set_option maxHeartbeats 4000000 in
set_option maxRecDepth 100000 in
theorem jL_law_493_w {p : Program} {e : Env} {s : State} {m : MethodId} {below : List Frame} {meth : Method} {c : Code} (l : Launch) (hfl : l.stackTraces = false) (G : va_G) (cy : Nat → ClassId) (g : Nat) (b : Nat → Nat → Nat) (a : Nat → Nat) (o : Nat) (bs sl_ : Nat) (xs : Nat → Int32) {x0 : Cond} {A : Nat → Prop} (S : CallFix p m c code 9 s #[Value.ref bs] (x0 :: bw_L) RL) (hr : meth.sig.returnType = ret) (hlocks : meth.locks = false) (hK : va_K G vwCl (bw_tys cy) s) (hZ : bw_Z g A s s.heap) (hX : va_X bs sl_ xs s s.heap) (hbl : bs < s.heap.size) (hbA : ¬ A bs) (hA9 : ∀ q, A q → s.heap.size ≤ q) : ∀ (nn : Nat) (h9 : nn + 1 ≤ 5000) (d : bw_A2) (t : bw_A2) (sl : bw_A3) (hn : Int32) (hs : Int32) (cs : bw_A1) (ln : Int32) (rp : Int32) (rn : Int32) (rt : Int32) (z : bw_A1) (rows : bw_A1) (asd : bw_A1) (sm : Int32) (buf : bw_A1) (bm : Int32) (th : Int32) (od : bw_A1) (om : Int32) (ow : Int32) (ca : Int32) (bo : Int32) (la : Int32) (pl : Int32) (to : Int32) (rd : bw_A1) (hh : Int64) (ou : (Nat → Int64)) (x4 : Int32) (k23 : bw_A2 → bw_A2 → bw_A3 → Int32 → Int32 → bw_A1 → Int32 → Int32 → Int32 → Int32 → bw_A1 → bw_A1 → bw_A1 → Int32 → bw_A1 → Int32 → Int32 → bw_A1 → Int32 → Int32 → Int32 → Int32 → Int32 → Int32 → Int32 → bw_A1 → Int64 → (Nat → Int64) → Int32 → Option Unit) (hk23 : (∀ (H : Heap) (locs : List Loc) (ls : Array Slot) (d : bw_A2) (t : bw_A2) (sl : bw_A3) (hn : Int32) (hs : Int32) (cs : bw_A1) (ln : Int32) (rp : Int32) (rn : Int32) (rt : Int32) (z : bw_A1) (rows : bw_A1) (asd : bw_A1) (sm : Int32) (buf : bw_A1) (bm : Int32) (th : Int32) (od : bw_A1) (om : Int32) (ow : Int32) (ca : Int32) (bo : Int32) (la : Int32) (pl : Int32) (to : Int32) (rd : bw_A1) (hh : Int64) (ou : (Nat → Int64)) (x4 : Int32), k23 d t sl hn hs cs ln rp rn rt z rows asd sm buf bm th od om ow ca bo la pl to rd hh ou x4 = some () → bw_I G A s.heap (bw_lW cy b a o d t sl hn hs cs ln rp rn rt z rows asd sm buf bm th od om ow ca bo la pl to rd hh ou) H locs → lv_has ls 9 [(0, .ref bs), (1, .ref (b 8 5)), (2, .ref (a 0)), (3, .ref o), (4, .int x4)] → W p l e room_1 s m #[Value.ref bs] below meth c H locs (601024 - 4 * nn) (7293034 - 24 * nn) (lw_Z below #[Value.ref bs] s) (F0 m 23 ls []))) (H : Heap) (locs : List Loc) (ls : Array Slot), jL_law_493 sl_ xs k23 d t sl hn hs cs ln rp rn rt z rows asd sm buf bm th od om ow ca bo la pl to rd hh ou x4 = some () → bw_I G A s.heap (bw_lW cy b a o d t sl hn hs cs ln rp rn rt z rows asd sm buf bm th od om ow ca bo la pl to rd hh ou) H locs → lv_has ls 9 [(0, .ref bs), (1, .ref (b 8 5)), (2, .ref (a 0)), (3, .ref o), (4, .int x4)] → W p l e room_1 s m #[Value.ref bs] below meth c H locs (601024 - 4 * nn) (7293034 - 24 * nn) (lw_Z below #[Value.ref bs] s) (F0 m 493 ls []) := by
  intro nn h9 d t sl hn hs cs ln rp rn rt z rows asd sm buf bm th od om ow ca bo la pl to rd hh ou x4 k23 hk23 H locs ls h hI hl
  have hx := S.1
  have hb := S.2.1
  have hown := S.2.2.2.1
  have hts := S.2.2.2.2
  unfold jL_law_493 at h
  refine lv_goto (tgt := 1618) hx hb dL_law_493 (by decide) ?_
  refine W.widen (k := 601024 - 4 * nn) (n := 7293034 - 24 * nn) (by omega) (by omega) ?_
  exact jL_law_1618_w l hfl G cy g b a o bs sl_ xs S hr hlocks hK hZ hX hbl hbA hA9 nn h9 d t sl hn hs cs ln rp rn rt z rows asd sm buf bm th od om ow ca bo la pl to rd hh ou x4 k23 hk23 _ _ _ h hI (lv_sub hl [0,1,2,3,4] rfl)
set_option maxHeartbeats 4000000 in
set_option maxRecDepth 100000 in
theorem jL_law_573_w {p : Program} {e : Env} {s : State} {m : MethodId} {below : List Frame} {meth : Method} {c : Code} (l : Launch) (hfl : l.stackTraces = false) (G : va_G) (cy : Nat → ClassId) (g : Nat) (b : Nat → Nat → Nat) (a : Nat → Nat) (o : Nat) (bs sl_ : Nat) (xs : Nat → Int32) {x0 : Cond} {A : Nat → Prop} (S : CallFix p m c code 9 s #[Value.ref bs] (x0 :: bw_L) RL) (hr : meth.sig.returnType = ret) (hlocks : meth.locks = false) (hK : va_K G vwCl (bw_tys cy) s) (hZ : bw_Z g A s s.heap) (hX : va_X bs sl_ xs s s.heap) (hbl : bs < s.heap.size) (hbA : ¬ A bs) (hA9 : ∀ q, A q → s.heap.size ≤ q) : ∀ (nn : Nat) (h9 : nn + 1 ≤ 5000) (d : bw_A2) (t : bw_A2) (sl : bw_A3) (hn : Int32) (hs : Int32) (cs : bw_A1) (ln : Int32) (rp : Int32) (rn : Int32) (rt : Int32) (z : bw_A1) (rows : bw_A1) (asd : bw_A1) (sm : Int32) (buf : bw_A1) (bm : Int32) (th : Int32) (od : bw_A1) (om : Int32) (ow : Int32) (ca : Int32) (bo : Int32) (la : Int32) (pl : Int32) (to : Int32) (rd : bw_A1) (hh : Int64) (ou : (Nat → Int64)) (x4 : Int32) (k23 : bw_A2 → bw_A2 → bw_A3 → Int32 → Int32 → bw_A1 → Int32 → Int32 → Int32 → Int32 → bw_A1 → bw_A1 → bw_A1 → Int32 → bw_A1 → Int32 → Int32 → bw_A1 → Int32 → Int32 → Int32 → Int32 → Int32 → Int32 → Int32 → bw_A1 → Int64 → (Nat → Int64) → Int32 → Option Unit) (hk23 : (∀ (H : Heap) (locs : List Loc) (ls : Array Slot) (d : bw_A2) (t : bw_A2) (sl : bw_A3) (hn : Int32) (hs : Int32) (cs : bw_A1) (ln : Int32) (rp : Int32) (rn : Int32) (rt : Int32) (z : bw_A1) (rows : bw_A1) (asd : bw_A1) (sm : Int32) (buf : bw_A1) (bm : Int32) (th : Int32) (od : bw_A1) (om : Int32) (ow : Int32) (ca : Int32) (bo : Int32) (la : Int32) (pl : Int32) (to : Int32) (rd : bw_A1) (hh : Int64) (ou : (Nat → Int64)) (x4 : Int32), k23 d t sl hn hs cs ln rp rn rt z rows asd sm buf bm th od om ow ca bo la pl to rd hh ou x4 = some () → bw_I G A s.heap (bw_lW cy b a o d t sl hn hs cs ln rp rn rt z rows asd sm buf bm th od om ow ca bo la pl to rd hh ou) H locs → lv_has ls 9 [(0, .ref bs), (1, .ref (b 8 5)), (2, .ref (a 0)), (3, .ref o), (4, .int x4)] → W p l e room_1 s m #[Value.ref bs] below meth c H locs (601024 - 4 * nn) (7293034 - 24 * nn) (lw_Z below #[Value.ref bs] s) (F0 m 23 ls []))) (H : Heap) (locs : List Loc) (ls : Array Slot), jL_law_573 sl_ xs k23 d t sl hn hs cs ln rp rn rt z rows asd sm buf bm th od om ow ca bo la pl to rd hh ou x4 = some () → bw_I G A s.heap (bw_lW cy b a o d t sl hn hs cs ln rp rn rt z rows asd sm buf bm th od om ow ca bo la pl to rd hh ou) H locs → lv_has ls 9 [(0, .ref bs), (1, .ref (b 8 5)), (2, .ref (a 0)), (3, .ref o), (4, .int x4)] → W p l e room_1 s m #[Value.ref bs] below meth c H locs (601024 - 4 * nn) (7293034 - 24 * nn) (lw_Z below #[Value.ref bs] s) (F0 m 573 ls []) := by
  intro nn h9 d t sl hn hs cs ln rp rn rt z rows asd sm buf bm th od om ow ca bo la pl to rd hh ou x4 k23 hk23 H locs ls h hI hl
  have hx := S.1
  have hb := S.2.1
  have hown := S.2.2.2.1
  have hts := S.2.2.2.2
  unfold jL_law_573 at h
  refine lv_goto (tgt := 1618) hx hb dL_law_573 (by decide) ?_
  refine W.widen (k := 601024 - 4 * nn) (n := 7293034 - 24 * nn) (by omega) (by omega) ?_
  exact jL_law_1618_w l hfl G cy g b a o bs sl_ xs S hr hlocks hK hZ hX hbl hbA hA9 nn h9 d t sl hn hs cs ln rp rn rt z rows asd sm buf bm th od om ow ca bo la pl to rd hh ou x4 k23 hk23 _ _ _ h hI (lv_sub hl [0,1,2,3,4] rfl)
set_option maxHeartbeats 4000000 in
set_option maxRecDepth 100000 in
theorem jL_law_653_w {p : Program} {e : Env} {s : State} {m : MethodId} {below : List Frame} {meth : Method} {c : Code} (l : Launch) (hfl : l.stackTraces = false) (G : va_G) (cy : Nat → ClassId) (g : Nat) (b : Nat → Nat → Nat) (a : Nat → Nat) (o : Nat) (bs sl_ : Nat) (xs : Nat → Int32) {x0 : Cond} {A : Nat → Prop} (S : CallFix p m c code 9 s #[Value.ref bs] (x0 :: bw_L) RL) (hr : meth.sig.returnType = ret) (hlocks : meth.locks = false) (hK : va_K G vwCl (bw_tys cy) s) (hZ : bw_Z g A s s.heap) (hX : va_X bs sl_ xs s s.heap) (hbl : bs < s.heap.size) (hbA : ¬ A bs) (hA9 : ∀ q, A q → s.heap.size ≤ q) : ∀ (nn : Nat) (h9 : nn + 1 ≤ 5000) (d : bw_A2) (t : bw_A2) (sl : bw_A3) (hn : Int32) (hs : Int32) (cs : bw_A1) (ln : Int32) (rp : Int32) (rn : Int32) (rt : Int32) (z : bw_A1) (rows : bw_A1) (asd : bw_A1) (sm : Int32) (buf : bw_A1) (bm : Int32) (th : Int32) (od : bw_A1) (om : Int32) (ow : Int32) (ca : Int32) (bo : Int32) (la : Int32) (pl : Int32) (to : Int32) (rd : bw_A1) (hh : Int64) (ou : (Nat → Int64)) (x4 : Int32) (k23 : bw_A2 → bw_A2 → bw_A3 → Int32 → Int32 → bw_A1 → Int32 → Int32 → Int32 → Int32 → bw_A1 → bw_A1 → bw_A1 → Int32 → bw_A1 → Int32 → Int32 → bw_A1 → Int32 → Int32 → Int32 → Int32 → Int32 → Int32 → Int32 → bw_A1 → Int64 → (Nat → Int64) → Int32 → Option Unit) (hk23 : (∀ (H : Heap) (locs : List Loc) (ls : Array Slot) (d : bw_A2) (t : bw_A2) (sl : bw_A3) (hn : Int32) (hs : Int32) (cs : bw_A1) (ln : Int32) (rp : Int32) (rn : Int32) (rt : Int32) (z : bw_A1) (rows : bw_A1) (asd : bw_A1) (sm : Int32) (buf : bw_A1) (bm : Int32) (th : Int32) (od : bw_A1) (om : Int32) (ow : Int32) (ca : Int32) (bo : Int32) (la : Int32) (pl : Int32) (to : Int32) (rd : bw_A1) (hh : Int64) (ou : (Nat → Int64)) (x4 : Int32), k23 d t sl hn hs cs ln rp rn rt z rows asd sm buf bm th od om ow ca bo la pl to rd hh ou x4 = some () → bw_I G A s.heap (bw_lW cy b a o d t sl hn hs cs ln rp rn rt z rows asd sm buf bm th od om ow ca bo la pl to rd hh ou) H locs → lv_has ls 9 [(0, .ref bs), (1, .ref (b 8 5)), (2, .ref (a 0)), (3, .ref o), (4, .int x4)] → W p l e room_1 s m #[Value.ref bs] below meth c H locs (601024 - 4 * nn) (7293034 - 24 * nn) (lw_Z below #[Value.ref bs] s) (F0 m 23 ls []))) (H : Heap) (locs : List Loc) (ls : Array Slot), jL_law_653 sl_ xs k23 d t sl hn hs cs ln rp rn rt z rows asd sm buf bm th od om ow ca bo la pl to rd hh ou x4 = some () → bw_I G A s.heap (bw_lW cy b a o d t sl hn hs cs ln rp rn rt z rows asd sm buf bm th od om ow ca bo la pl to rd hh ou) H locs → lv_has ls 9 [(0, .ref bs), (1, .ref (b 8 5)), (2, .ref (a 0)), (3, .ref o), (4, .int x4)] → W p l e room_1 s m #[Value.ref bs] below meth c H locs (601024 - 4 * nn) (7293034 - 24 * nn) (lw_Z below #[Value.ref bs] s) (F0 m 653 ls []) := by
  intro nn h9 d t sl hn hs cs ln rp rn rt z rows asd sm buf bm th od om ow ca bo la pl to rd hh ou x4 k23 hk23 H locs ls h hI hl
  have hx := S.1
  have hb := S.2.1
  have hown := S.2.2.2.1
  have hts := S.2.2.2.2
  unfold jL_law_653 at h
  refine lv_goto (tgt := 1618) hx hb dL_law_653 (by decide) ?_
  refine W.widen (k := 601024 - 4 * nn) (n := 7293034 - 24 * nn) (by omega) (by omega) ?_
  exact jL_law_1618_w l hfl G cy g b a o bs sl_ xs S hr hlocks hK hZ hX hbl hbA hA9 nn h9 d t sl hn hs cs ln rp rn rt z rows asd sm buf bm th od om ow ca bo la pl to rd hh ou x4 k23 hk23 _ _ _ h hI (lv_sub hl [0,1,2,3,4] rfl)
set_option maxHeartbeats 4000000 in
set_option maxRecDepth 100000 in
theorem jL_law_709_w {p : Program} {e : Env} {s : State} {m : MethodId} {below : List Frame} {meth : Method} {c : Code} (l : Launch) (hfl : l.stackTraces = false) (G : va_G) (cy : Nat → ClassId) (g : Nat) (b : Nat → Nat → Nat) (a : Nat → Nat) (o : Nat) (bs sl_ : Nat) (xs : Nat → Int32) {x0 : Cond} {A : Nat → Prop} (S : CallFix p m c code 9 s #[Value.ref bs] (x0 :: bw_L) RL) (hr : meth.sig.returnType = ret) (hlocks : meth.locks = false) (hK : va_K G vwCl (bw_tys cy) s) (hZ : bw_Z g A s s.heap) (hX : va_X bs sl_ xs s s.heap) (hbl : bs < s.heap.size) (hbA : ¬ A bs) (hA9 : ∀ q, A q → s.heap.size ≤ q) : ∀ (nn : Nat) (h9 : nn + 1 ≤ 5000) (d : bw_A2) (t : bw_A2) (sl : bw_A3) (hn : Int32) (hs : Int32) (cs : bw_A1) (ln : Int32) (rp : Int32) (rn : Int32) (rt : Int32) (z : bw_A1) (rows : bw_A1) (asd : bw_A1) (sm : Int32) (buf : bw_A1) (bm : Int32) (th : Int32) (od : bw_A1) (om : Int32) (ow : Int32) (ca : Int32) (bo : Int32) (la : Int32) (pl : Int32) (to : Int32) (rd : bw_A1) (hh : Int64) (ou : (Nat → Int64)) (x4 : Int32) (k23 : bw_A2 → bw_A2 → bw_A3 → Int32 → Int32 → bw_A1 → Int32 → Int32 → Int32 → Int32 → bw_A1 → bw_A1 → bw_A1 → Int32 → bw_A1 → Int32 → Int32 → bw_A1 → Int32 → Int32 → Int32 → Int32 → Int32 → Int32 → Int32 → bw_A1 → Int64 → (Nat → Int64) → Int32 → Option Unit) (hk23 : (∀ (H : Heap) (locs : List Loc) (ls : Array Slot) (d : bw_A2) (t : bw_A2) (sl : bw_A3) (hn : Int32) (hs : Int32) (cs : bw_A1) (ln : Int32) (rp : Int32) (rn : Int32) (rt : Int32) (z : bw_A1) (rows : bw_A1) (asd : bw_A1) (sm : Int32) (buf : bw_A1) (bm : Int32) (th : Int32) (od : bw_A1) (om : Int32) (ow : Int32) (ca : Int32) (bo : Int32) (la : Int32) (pl : Int32) (to : Int32) (rd : bw_A1) (hh : Int64) (ou : (Nat → Int64)) (x4 : Int32), k23 d t sl hn hs cs ln rp rn rt z rows asd sm buf bm th od om ow ca bo la pl to rd hh ou x4 = some () → bw_I G A s.heap (bw_lW cy b a o d t sl hn hs cs ln rp rn rt z rows asd sm buf bm th od om ow ca bo la pl to rd hh ou) H locs → lv_has ls 9 [(0, .ref bs), (1, .ref (b 8 5)), (2, .ref (a 0)), (3, .ref o), (4, .int x4)] → W p l e room_1 s m #[Value.ref bs] below meth c H locs (601024 - 4 * nn) (7293034 - 24 * nn) (lw_Z below #[Value.ref bs] s) (F0 m 23 ls []))) (H : Heap) (locs : List Loc) (ls : Array Slot), jL_law_709 sl_ xs k23 d t sl hn hs cs ln rp rn rt z rows asd sm buf bm th od om ow ca bo la pl to rd hh ou x4 = some () → bw_I G A s.heap (bw_lW cy b a o d t sl hn hs cs ln rp rn rt z rows asd sm buf bm th od om ow ca bo la pl to rd hh ou) H locs → lv_has ls 9 [(0, .ref bs), (1, .ref (b 8 5)), (2, .ref (a 0)), (3, .ref o), (4, .int x4)] → W p l e room_1 s m #[Value.ref bs] below meth c H locs (601024 - 4 * nn) (7293034 - 24 * nn) (lw_Z below #[Value.ref bs] s) (F0 m 709 ls []) := by
  intro nn h9 d t sl hn hs cs ln rp rn rt z rows asd sm buf bm th od om ow ca bo la pl to rd hh ou x4 k23 hk23 H locs ls h hI hl
  have hx := S.1
  have hb := S.2.1
  have hown := S.2.2.2.1
  have hts := S.2.2.2.2
  unfold jL_law_709 at h
  refine lv_goto (tgt := 1618) hx hb dL_law_709 (by decide) ?_
  refine W.widen (k := 601024 - 4 * nn) (n := 7293034 - 24 * nn) (by omega) (by omega) ?_
  exact jL_law_1618_w l hfl G cy g b a o bs sl_ xs S hr hlocks hK hZ hX hbl hbA hA9 nn h9 d t sl hn hs cs ln rp rn rt z rows asd sm buf bm th od om ow ca bo la pl to rd hh ou x4 k23 hk23 _ _ _ h hI (lv_sub hl [0,1,2,3,4] rfl)
set_option maxHeartbeats 4000000 in
set_option maxRecDepth 100000 in
theorem jL_law_765_w {p : Program} {e : Env} {s : State} {m : MethodId} {below : List Frame} {meth : Method} {c : Code} (l : Launch) (hfl : l.stackTraces = false) (G : va_G) (cy : Nat → ClassId) (g : Nat) (b : Nat → Nat → Nat) (a : Nat → Nat) (o : Nat) (bs sl_ : Nat) (xs : Nat → Int32) {x0 : Cond} {A : Nat → Prop} (S : CallFix p m c code 9 s #[Value.ref bs] (x0 :: bw_L) RL) (hr : meth.sig.returnType = ret) (hlocks : meth.locks = false) (hK : va_K G vwCl (bw_tys cy) s) (hZ : bw_Z g A s s.heap) (hX : va_X bs sl_ xs s s.heap) (hbl : bs < s.heap.size) (hbA : ¬ A bs) (hA9 : ∀ q, A q → s.heap.size ≤ q) : ∀ (nn : Nat) (h9 : nn + 1 ≤ 5000) (d : bw_A2) (t : bw_A2) (sl : bw_A3) (hn : Int32) (hs : Int32) (cs : bw_A1) (ln : Int32) (rp : Int32) (rn : Int32) (rt : Int32) (z : bw_A1) (rows : bw_A1) (asd : bw_A1) (sm : Int32) (buf : bw_A1) (bm : Int32) (th : Int32) (od : bw_A1) (om : Int32) (ow : Int32) (ca : Int32) (bo : Int32) (la : Int32) (pl : Int32) (to : Int32) (rd : bw_A1) (hh : Int64) (ou : (Nat → Int64)) (x4 : Int32) (k23 : bw_A2 → bw_A2 → bw_A3 → Int32 → Int32 → bw_A1 → Int32 → Int32 → Int32 → Int32 → bw_A1 → bw_A1 → bw_A1 → Int32 → bw_A1 → Int32 → Int32 → bw_A1 → Int32 → Int32 → Int32 → Int32 → Int32 → Int32 → Int32 → bw_A1 → Int64 → (Nat → Int64) → Int32 → Option Unit) (hk23 : (∀ (H : Heap) (locs : List Loc) (ls : Array Slot) (d : bw_A2) (t : bw_A2) (sl : bw_A3) (hn : Int32) (hs : Int32) (cs : bw_A1) (ln : Int32) (rp : Int32) (rn : Int32) (rt : Int32) (z : bw_A1) (rows : bw_A1) (asd : bw_A1) (sm : Int32) (buf : bw_A1) (bm : Int32) (th : Int32) (od : bw_A1) (om : Int32) (ow : Int32) (ca : Int32) (bo : Int32) (la : Int32) (pl : Int32) (to : Int32) (rd : bw_A1) (hh : Int64) (ou : (Nat → Int64)) (x4 : Int32), k23 d t sl hn hs cs ln rp rn rt z rows asd sm buf bm th od om ow ca bo la pl to rd hh ou x4 = some () → bw_I G A s.heap (bw_lW cy b a o d t sl hn hs cs ln rp rn rt z rows asd sm buf bm th od om ow ca bo la pl to rd hh ou) H locs → lv_has ls 9 [(0, .ref bs), (1, .ref (b 8 5)), (2, .ref (a 0)), (3, .ref o), (4, .int x4)] → W p l e room_1 s m #[Value.ref bs] below meth c H locs (601024 - 4 * nn) (7293034 - 24 * nn) (lw_Z below #[Value.ref bs] s) (F0 m 23 ls []))) (H : Heap) (locs : List Loc) (ls : Array Slot), jL_law_765 sl_ xs k23 d t sl hn hs cs ln rp rn rt z rows asd sm buf bm th od om ow ca bo la pl to rd hh ou x4 = some () → bw_I G A s.heap (bw_lW cy b a o d t sl hn hs cs ln rp rn rt z rows asd sm buf bm th od om ow ca bo la pl to rd hh ou) H locs → lv_has ls 9 [(0, .ref bs), (1, .ref (b 8 5)), (2, .ref (a 0)), (3, .ref o), (4, .int x4)] → W p l e room_1 s m #[Value.ref bs] below meth c H locs (601024 - 4 * nn) (7293034 - 24 * nn) (lw_Z below #[Value.ref bs] s) (F0 m 765 ls []) := by
  intro nn h9 d t sl hn hs cs ln rp rn rt z rows asd sm buf bm th od om ow ca bo la pl to rd hh ou x4 k23 hk23 H locs ls h hI hl
  have hx := S.1
  have hb := S.2.1
  have hown := S.2.2.2.1
  have hts := S.2.2.2.2
  unfold jL_law_765 at h
  refine lv_goto (tgt := 1618) hx hb dL_law_765 (by decide) ?_
  refine W.widen (k := 601024 - 4 * nn) (n := 7293034 - 24 * nn) (by omega) (by omega) ?_
  exact jL_law_1618_w l hfl G cy g b a o bs sl_ xs S hr hlocks hK hZ hX hbl hbA hA9 nn h9 d t sl hn hs cs ln rp rn rt z rows asd sm buf bm th od om ow ca bo la pl to rd hh ou x4 k23 hk23 _ _ _ h hI (lv_sub hl [0,1,2,3,4] rfl)
set_option maxHeartbeats 4000000 in
set_option maxRecDepth 100000 in
theorem jL_law_835_w {p : Program} {e : Env} {s : State} {m : MethodId} {below : List Frame} {meth : Method} {c : Code} (l : Launch) (hfl : l.stackTraces = false) (G : va_G) (cy : Nat → ClassId) (g : Nat) (b : Nat → Nat → Nat) (a : Nat → Nat) (o : Nat) (bs sl_ : Nat) (xs : Nat → Int32) {x0 : Cond} {A : Nat → Prop} (S : CallFix p m c code 9 s #[Value.ref bs] (x0 :: bw_L) RL) (hr : meth.sig.returnType = ret) (hlocks : meth.locks = false) (hK : va_K G vwCl (bw_tys cy) s) (hZ : bw_Z g A s s.heap) (hX : va_X bs sl_ xs s s.heap) (hbl : bs < s.heap.size) (hbA : ¬ A bs) (hA9 : ∀ q, A q → s.heap.size ≤ q) : ∀ (nn : Nat) (h9 : nn + 1 ≤ 5000) (d : bw_A2) (t : bw_A2) (sl : bw_A3) (hn : Int32) (hs : Int32) (cs : bw_A1) (ln : Int32) (rp : Int32) (rn : Int32) (rt : Int32) (z : bw_A1) (rows : bw_A1) (asd : bw_A1) (sm : Int32) (buf : bw_A1) (bm : Int32) (th : Int32) (od : bw_A1) (om : Int32) (ow : Int32) (ca : Int32) (bo : Int32) (la : Int32) (pl : Int32) (to : Int32) (rd : bw_A1) (hh : Int64) (ou : (Nat → Int64)) (x4 : Int32) (k23 : bw_A2 → bw_A2 → bw_A3 → Int32 → Int32 → bw_A1 → Int32 → Int32 → Int32 → Int32 → bw_A1 → bw_A1 → bw_A1 → Int32 → bw_A1 → Int32 → Int32 → bw_A1 → Int32 → Int32 → Int32 → Int32 → Int32 → Int32 → Int32 → bw_A1 → Int64 → (Nat → Int64) → Int32 → Option Unit) (hk23 : (∀ (H : Heap) (locs : List Loc) (ls : Array Slot) (d : bw_A2) (t : bw_A2) (sl : bw_A3) (hn : Int32) (hs : Int32) (cs : bw_A1) (ln : Int32) (rp : Int32) (rn : Int32) (rt : Int32) (z : bw_A1) (rows : bw_A1) (asd : bw_A1) (sm : Int32) (buf : bw_A1) (bm : Int32) (th : Int32) (od : bw_A1) (om : Int32) (ow : Int32) (ca : Int32) (bo : Int32) (la : Int32) (pl : Int32) (to : Int32) (rd : bw_A1) (hh : Int64) (ou : (Nat → Int64)) (x4 : Int32), k23 d t sl hn hs cs ln rp rn rt z rows asd sm buf bm th od om ow ca bo la pl to rd hh ou x4 = some () → bw_I G A s.heap (bw_lW cy b a o d t sl hn hs cs ln rp rn rt z rows asd sm buf bm th od om ow ca bo la pl to rd hh ou) H locs → lv_has ls 9 [(0, .ref bs), (1, .ref (b 8 5)), (2, .ref (a 0)), (3, .ref o), (4, .int x4)] → W p l e room_1 s m #[Value.ref bs] below meth c H locs (601024 - 4 * nn) (7293034 - 24 * nn) (lw_Z below #[Value.ref bs] s) (F0 m 23 ls []))) (H : Heap) (locs : List Loc) (ls : Array Slot), jL_law_835 sl_ xs k23 d t sl hn hs cs ln rp rn rt z rows asd sm buf bm th od om ow ca bo la pl to rd hh ou x4 = some () → bw_I G A s.heap (bw_lW cy b a o d t sl hn hs cs ln rp rn rt z rows asd sm buf bm th od om ow ca bo la pl to rd hh ou) H locs → lv_has ls 9 [(0, .ref bs), (1, .ref (b 8 5)), (2, .ref (a 0)), (3, .ref o), (4, .int x4)] → W p l e room_1 s m #[Value.ref bs] below meth c H locs (601024 - 4 * nn) (7293034 - 24 * nn) (lw_Z below #[Value.ref bs] s) (F0 m 835 ls []) := by
  intro nn h9 d t sl hn hs cs ln rp rn rt z rows asd sm buf bm th od om ow ca bo la pl to rd hh ou x4 k23 hk23 H locs ls h hI hl
  have hx := S.1
  have hb := S.2.1
  have hown := S.2.2.2.1
  have hts := S.2.2.2.2
  unfold jL_law_835 at h
  refine lv_goto (tgt := 1618) hx hb dL_law_835 (by decide) ?_
  refine W.widen (k := 601024 - 4 * nn) (n := 7293034 - 24 * nn) (by omega) (by omega) ?_
  exact jL_law_1618_w l hfl G cy g b a o bs sl_ xs S hr hlocks hK hZ hX hbl hbA hA9 nn h9 d t sl hn hs cs ln rp rn rt z rows asd sm buf bm th od om ow ca bo la pl to rd hh ou x4 k23 hk23 _ _ _ h hI (lv_sub hl [0,1,2,3,4] rfl)
set_option maxHeartbeats 4000000 in
set_option maxRecDepth 100000 in
theorem jL_law_879_w {p : Program} {e : Env} {s : State} {m : MethodId} {below : List Frame} {meth : Method} {c : Code} (l : Launch) (hfl : l.stackTraces = false) (G : va_G) (cy : Nat → ClassId) (g : Nat) (b : Nat → Nat → Nat) (a : Nat → Nat) (o : Nat) (bs sl_ : Nat) (xs : Nat → Int32) {x0 : Cond} {A : Nat → Prop} (S : CallFix p m c code 9 s #[Value.ref bs] (x0 :: bw_L) RL) (hr : meth.sig.returnType = ret) (hlocks : meth.locks = false) (hK : va_K G vwCl (bw_tys cy) s) (hZ : bw_Z g A s s.heap) (hX : va_X bs sl_ xs s s.heap) (hbl : bs < s.heap.size) (hbA : ¬ A bs) (hA9 : ∀ q, A q → s.heap.size ≤ q) : ∀ (nn : Nat) (h9 : nn + 1 ≤ 5000) (d : bw_A2) (t : bw_A2) (sl : bw_A3) (hn : Int32) (hs : Int32) (cs : bw_A1) (ln : Int32) (rp : Int32) (rn : Int32) (rt : Int32) (z : bw_A1) (rows : bw_A1) (asd : bw_A1) (sm : Int32) (buf : bw_A1) (bm : Int32) (th : Int32) (od : bw_A1) (om : Int32) (ow : Int32) (ca : Int32) (bo : Int32) (la : Int32) (pl : Int32) (to : Int32) (rd : bw_A1) (hh : Int64) (ou : (Nat → Int64)) (x4 : Int32) (k23 : bw_A2 → bw_A2 → bw_A3 → Int32 → Int32 → bw_A1 → Int32 → Int32 → Int32 → Int32 → bw_A1 → bw_A1 → bw_A1 → Int32 → bw_A1 → Int32 → Int32 → bw_A1 → Int32 → Int32 → Int32 → Int32 → Int32 → Int32 → Int32 → bw_A1 → Int64 → (Nat → Int64) → Int32 → Option Unit) (hk23 : (∀ (H : Heap) (locs : List Loc) (ls : Array Slot) (d : bw_A2) (t : bw_A2) (sl : bw_A3) (hn : Int32) (hs : Int32) (cs : bw_A1) (ln : Int32) (rp : Int32) (rn : Int32) (rt : Int32) (z : bw_A1) (rows : bw_A1) (asd : bw_A1) (sm : Int32) (buf : bw_A1) (bm : Int32) (th : Int32) (od : bw_A1) (om : Int32) (ow : Int32) (ca : Int32) (bo : Int32) (la : Int32) (pl : Int32) (to : Int32) (rd : bw_A1) (hh : Int64) (ou : (Nat → Int64)) (x4 : Int32), k23 d t sl hn hs cs ln rp rn rt z rows asd sm buf bm th od om ow ca bo la pl to rd hh ou x4 = some () → bw_I G A s.heap (bw_lW cy b a o d t sl hn hs cs ln rp rn rt z rows asd sm buf bm th od om ow ca bo la pl to rd hh ou) H locs → lv_has ls 9 [(0, .ref bs), (1, .ref (b 8 5)), (2, .ref (a 0)), (3, .ref o), (4, .int x4)] → W p l e room_1 s m #[Value.ref bs] below meth c H locs (601024 - 4 * nn) (7293034 - 24 * nn) (lw_Z below #[Value.ref bs] s) (F0 m 23 ls []))) (H : Heap) (locs : List Loc) (ls : Array Slot), jL_law_879 sl_ xs k23 d t sl hn hs cs ln rp rn rt z rows asd sm buf bm th od om ow ca bo la pl to rd hh ou x4 = some () → bw_I G A s.heap (bw_lW cy b a o d t sl hn hs cs ln rp rn rt z rows asd sm buf bm th od om ow ca bo la pl to rd hh ou) H locs → lv_has ls 9 [(0, .ref bs), (1, .ref (b 8 5)), (2, .ref (a 0)), (3, .ref o), (4, .int x4)] → W p l e room_1 s m #[Value.ref bs] below meth c H locs (601024 - 4 * nn) (7293034 - 24 * nn) (lw_Z below #[Value.ref bs] s) (F0 m 879 ls []) := by
  intro nn h9 d t sl hn hs cs ln rp rn rt z rows asd sm buf bm th od om ow ca bo la pl to rd hh ou x4 k23 hk23 H locs ls h hI hl
  have hx := S.1
  have hb := S.2.1
  have hown := S.2.2.2.1
  have hts := S.2.2.2.2
  unfold jL_law_879 at h
  refine lv_goto (tgt := 1618) hx hb dL_law_879 (by decide) ?_
  refine W.widen (k := 601024 - 4 * nn) (n := 7293034 - 24 * nn) (by omega) (by omega) ?_
  exact jL_law_1618_w l hfl G cy g b a o bs sl_ xs S hr hlocks hK hZ hX hbl hbA hA9 nn h9 d t sl hn hs cs ln rp rn rt z rows asd sm buf bm th od om ow ca bo la pl to rd hh ou x4 k23 hk23 _ _ _ h hI (lv_sub hl [0,1,2,3,4] rfl)
set_option maxHeartbeats 4000000 in
set_option maxRecDepth 100000 in
theorem jL_law_947_w {p : Program} {e : Env} {s : State} {m : MethodId} {below : List Frame} {meth : Method} {c : Code} (l : Launch) (hfl : l.stackTraces = false) (G : va_G) (cy : Nat → ClassId) (g : Nat) (b : Nat → Nat → Nat) (a : Nat → Nat) (o : Nat) (bs sl_ : Nat) (xs : Nat → Int32) {x0 : Cond} {A : Nat → Prop} (S : CallFix p m c code 9 s #[Value.ref bs] (x0 :: bw_L) RL) (hr : meth.sig.returnType = ret) (hlocks : meth.locks = false) (hK : va_K G vwCl (bw_tys cy) s) (hZ : bw_Z g A s s.heap) (hX : va_X bs sl_ xs s s.heap) (hbl : bs < s.heap.size) (hbA : ¬ A bs) (hA9 : ∀ q, A q → s.heap.size ≤ q) : ∀ (nn : Nat) (h9 : nn + 1 ≤ 5000) (d : bw_A2) (t : bw_A2) (sl : bw_A3) (hn : Int32) (hs : Int32) (cs : bw_A1) (ln : Int32) (rp : Int32) (rn : Int32) (rt : Int32) (z : bw_A1) (rows : bw_A1) (asd : bw_A1) (sm : Int32) (buf : bw_A1) (bm : Int32) (th : Int32) (od : bw_A1) (om : Int32) (ow : Int32) (ca : Int32) (bo : Int32) (la : Int32) (pl : Int32) (to : Int32) (rd : bw_A1) (hh : Int64) (ou : (Nat → Int64)) (x4 : Int32) (k23 : bw_A2 → bw_A2 → bw_A3 → Int32 → Int32 → bw_A1 → Int32 → Int32 → Int32 → Int32 → bw_A1 → bw_A1 → bw_A1 → Int32 → bw_A1 → Int32 → Int32 → bw_A1 → Int32 → Int32 → Int32 → Int32 → Int32 → Int32 → Int32 → bw_A1 → Int64 → (Nat → Int64) → Int32 → Option Unit) (hk23 : (∀ (H : Heap) (locs : List Loc) (ls : Array Slot) (d : bw_A2) (t : bw_A2) (sl : bw_A3) (hn : Int32) (hs : Int32) (cs : bw_A1) (ln : Int32) (rp : Int32) (rn : Int32) (rt : Int32) (z : bw_A1) (rows : bw_A1) (asd : bw_A1) (sm : Int32) (buf : bw_A1) (bm : Int32) (th : Int32) (od : bw_A1) (om : Int32) (ow : Int32) (ca : Int32) (bo : Int32) (la : Int32) (pl : Int32) (to : Int32) (rd : bw_A1) (hh : Int64) (ou : (Nat → Int64)) (x4 : Int32), k23 d t sl hn hs cs ln rp rn rt z rows asd sm buf bm th od om ow ca bo la pl to rd hh ou x4 = some () → bw_I G A s.heap (bw_lW cy b a o d t sl hn hs cs ln rp rn rt z rows asd sm buf bm th od om ow ca bo la pl to rd hh ou) H locs → lv_has ls 9 [(0, .ref bs), (1, .ref (b 8 5)), (2, .ref (a 0)), (3, .ref o), (4, .int x4)] → W p l e room_1 s m #[Value.ref bs] below meth c H locs (601024 - 4 * nn) (7293034 - 24 * nn) (lw_Z below #[Value.ref bs] s) (F0 m 23 ls []))) (H : Heap) (locs : List Loc) (ls : Array Slot), jL_law_947 sl_ xs k23 d t sl hn hs cs ln rp rn rt z rows asd sm buf bm th od om ow ca bo la pl to rd hh ou x4 = some () → bw_I G A s.heap (bw_lW cy b a o d t sl hn hs cs ln rp rn rt z rows asd sm buf bm th od om ow ca bo la pl to rd hh ou) H locs → lv_has ls 9 [(0, .ref bs), (1, .ref (b 8 5)), (2, .ref (a 0)), (3, .ref o), (4, .int x4)] → W p l e room_1 s m #[Value.ref bs] below meth c H locs (601024 - 4 * nn) (7293034 - 24 * nn) (lw_Z below #[Value.ref bs] s) (F0 m 947 ls []) := by
  intro nn h9 d t sl hn hs cs ln rp rn rt z rows asd sm buf bm th od om ow ca bo la pl to rd hh ou x4 k23 hk23 H locs ls h hI hl
  have hx := S.1
  have hb := S.2.1
  have hown := S.2.2.2.1
  have hts := S.2.2.2.2
  unfold jL_law_947 at h
  refine lv_goto (tgt := 1618) hx hb dL_law_947 (by decide) ?_
  refine W.widen (k := 601024 - 4 * nn) (n := 7293034 - 24 * nn) (by omega) (by omega) ?_
  exact jL_law_1618_w l hfl G cy g b a o bs sl_ xs S hr hlocks hK hZ hX hbl hbA hA9 nn h9 d t sl hn hs cs ln rp rn rt z rows asd sm buf bm th od om ow ca bo la pl to rd hh ou x4 k23 hk23 _ _ _ h hI (lv_sub hl [0,1,2,3,4] rfl)
set_option maxHeartbeats 4000000 in
set_option maxRecDepth 100000 in
theorem jL_law_1027_w {p : Program} {e : Env} {s : State} {m : MethodId} {below : List Frame} {meth : Method} {c : Code} (l : Launch) (hfl : l.stackTraces = false) (G : va_G) (cy : Nat → ClassId) (g : Nat) (b : Nat → Nat → Nat) (a : Nat → Nat) (o : Nat) (bs sl_ : Nat) (xs : Nat → Int32) {x0 : Cond} {A : Nat → Prop} (S : CallFix p m c code 9 s #[Value.ref bs] (x0 :: bw_L) RL) (hr : meth.sig.returnType = ret) (hlocks : meth.locks = false) (hK : va_K G vwCl (bw_tys cy) s) (hZ : bw_Z g A s s.heap) (hX : va_X bs sl_ xs s s.heap) (hbl : bs < s.heap.size) (hbA : ¬ A bs) (hA9 : ∀ q, A q → s.heap.size ≤ q) : ∀ (nn : Nat) (h9 : nn + 1 ≤ 5000) (d : bw_A2) (t : bw_A2) (sl : bw_A3) (hn : Int32) (hs : Int32) (cs : bw_A1) (ln : Int32) (rp : Int32) (rn : Int32) (rt : Int32) (z : bw_A1) (rows : bw_A1) (asd : bw_A1) (sm : Int32) (buf : bw_A1) (bm : Int32) (th : Int32) (od : bw_A1) (om : Int32) (ow : Int32) (ca : Int32) (bo : Int32) (la : Int32) (pl : Int32) (to : Int32) (rd : bw_A1) (hh : Int64) (ou : (Nat → Int64)) (x4 : Int32) (k23 : bw_A2 → bw_A2 → bw_A3 → Int32 → Int32 → bw_A1 → Int32 → Int32 → Int32 → Int32 → bw_A1 → bw_A1 → bw_A1 → Int32 → bw_A1 → Int32 → Int32 → bw_A1 → Int32 → Int32 → Int32 → Int32 → Int32 → Int32 → Int32 → bw_A1 → Int64 → (Nat → Int64) → Int32 → Option Unit) (hk23 : (∀ (H : Heap) (locs : List Loc) (ls : Array Slot) (d : bw_A2) (t : bw_A2) (sl : bw_A3) (hn : Int32) (hs : Int32) (cs : bw_A1) (ln : Int32) (rp : Int32) (rn : Int32) (rt : Int32) (z : bw_A1) (rows : bw_A1) (asd : bw_A1) (sm : Int32) (buf : bw_A1) (bm : Int32) (th : Int32) (od : bw_A1) (om : Int32) (ow : Int32) (ca : Int32) (bo : Int32) (la : Int32) (pl : Int32) (to : Int32) (rd : bw_A1) (hh : Int64) (ou : (Nat → Int64)) (x4 : Int32), k23 d t sl hn hs cs ln rp rn rt z rows asd sm buf bm th od om ow ca bo la pl to rd hh ou x4 = some () → bw_I G A s.heap (bw_lW cy b a o d t sl hn hs cs ln rp rn rt z rows asd sm buf bm th od om ow ca bo la pl to rd hh ou) H locs → lv_has ls 9 [(0, .ref bs), (1, .ref (b 8 5)), (2, .ref (a 0)), (3, .ref o), (4, .int x4)] → W p l e room_1 s m #[Value.ref bs] below meth c H locs (601024 - 4 * nn) (7293034 - 24 * nn) (lw_Z below #[Value.ref bs] s) (F0 m 23 ls []))) (H : Heap) (locs : List Loc) (ls : Array Slot), jL_law_1027 sl_ xs k23 d t sl hn hs cs ln rp rn rt z rows asd sm buf bm th od om ow ca bo la pl to rd hh ou x4 = some () → bw_I G A s.heap (bw_lW cy b a o d t sl hn hs cs ln rp rn rt z rows asd sm buf bm th od om ow ca bo la pl to rd hh ou) H locs → lv_has ls 9 [(0, .ref bs), (1, .ref (b 8 5)), (2, .ref (a 0)), (3, .ref o), (4, .int x4)] → W p l e room_1 s m #[Value.ref bs] below meth c H locs (601024 - 4 * nn) (7293034 - 24 * nn) (lw_Z below #[Value.ref bs] s) (F0 m 1027 ls []) := by
  intro nn h9 d t sl hn hs cs ln rp rn rt z rows asd sm buf bm th od om ow ca bo la pl to rd hh ou x4 k23 hk23 H locs ls h hI hl
  have hx := S.1
  have hb := S.2.1
  have hown := S.2.2.2.1
  have hts := S.2.2.2.2
  unfold jL_law_1027 at h
  refine lv_goto (tgt := 1618) hx hb dL_law_1027 (by decide) ?_
  refine W.widen (k := 601024 - 4 * nn) (n := 7293034 - 24 * nn) (by omega) (by omega) ?_
  exact jL_law_1618_w l hfl G cy g b a o bs sl_ xs S hr hlocks hK hZ hX hbl hbA hA9 nn h9 d t sl hn hs cs ln rp rn rt z rows asd sm buf bm th od om ow ca bo la pl to rd hh ou x4 k23 hk23 _ _ _ h hI (lv_sub hl [0,1,2,3,4] rfl)
set_option maxHeartbeats 4000000 in
set_option maxRecDepth 100000 in
theorem jL_law_1095_w {p : Program} {e : Env} {s : State} {m : MethodId} {below : List Frame} {meth : Method} {c : Code} (l : Launch) (hfl : l.stackTraces = false) (G : va_G) (cy : Nat → ClassId) (g : Nat) (b : Nat → Nat → Nat) (a : Nat → Nat) (o : Nat) (bs sl_ : Nat) (xs : Nat → Int32) {x0 : Cond} {A : Nat → Prop} (S : CallFix p m c code 9 s #[Value.ref bs] (x0 :: bw_L) RL) (hr : meth.sig.returnType = ret) (hlocks : meth.locks = false) (hK : va_K G vwCl (bw_tys cy) s) (hZ : bw_Z g A s s.heap) (hX : va_X bs sl_ xs s s.heap) (hbl : bs < s.heap.size) (hbA : ¬ A bs) (hA9 : ∀ q, A q → s.heap.size ≤ q) : ∀ (nn : Nat) (h9 : nn + 1 ≤ 5000) (d : bw_A2) (t : bw_A2) (sl : bw_A3) (hn : Int32) (hs : Int32) (cs : bw_A1) (ln : Int32) (rp : Int32) (rn : Int32) (rt : Int32) (z : bw_A1) (rows : bw_A1) (asd : bw_A1) (sm : Int32) (buf : bw_A1) (bm : Int32) (th : Int32) (od : bw_A1) (om : Int32) (ow : Int32) (ca : Int32) (bo : Int32) (la : Int32) (pl : Int32) (to : Int32) (rd : bw_A1) (hh : Int64) (ou : (Nat → Int64)) (x4 : Int32) (k23 : bw_A2 → bw_A2 → bw_A3 → Int32 → Int32 → bw_A1 → Int32 → Int32 → Int32 → Int32 → bw_A1 → bw_A1 → bw_A1 → Int32 → bw_A1 → Int32 → Int32 → bw_A1 → Int32 → Int32 → Int32 → Int32 → Int32 → Int32 → Int32 → bw_A1 → Int64 → (Nat → Int64) → Int32 → Option Unit) (hk23 : (∀ (H : Heap) (locs : List Loc) (ls : Array Slot) (d : bw_A2) (t : bw_A2) (sl : bw_A3) (hn : Int32) (hs : Int32) (cs : bw_A1) (ln : Int32) (rp : Int32) (rn : Int32) (rt : Int32) (z : bw_A1) (rows : bw_A1) (asd : bw_A1) (sm : Int32) (buf : bw_A1) (bm : Int32) (th : Int32) (od : bw_A1) (om : Int32) (ow : Int32) (ca : Int32) (bo : Int32) (la : Int32) (pl : Int32) (to : Int32) (rd : bw_A1) (hh : Int64) (ou : (Nat → Int64)) (x4 : Int32), k23 d t sl hn hs cs ln rp rn rt z rows asd sm buf bm th od om ow ca bo la pl to rd hh ou x4 = some () → bw_I G A s.heap (bw_lW cy b a o d t sl hn hs cs ln rp rn rt z rows asd sm buf bm th od om ow ca bo la pl to rd hh ou) H locs → lv_has ls 9 [(0, .ref bs), (1, .ref (b 8 5)), (2, .ref (a 0)), (3, .ref o), (4, .int x4)] → W p l e room_1 s m #[Value.ref bs] below meth c H locs (601024 - 4 * nn) (7293034 - 24 * nn) (lw_Z below #[Value.ref bs] s) (F0 m 23 ls []))) (H : Heap) (locs : List Loc) (ls : Array Slot), jL_law_1095 sl_ xs k23 d t sl hn hs cs ln rp rn rt z rows asd sm buf bm th od om ow ca bo la pl to rd hh ou x4 = some () → bw_I G A s.heap (bw_lW cy b a o d t sl hn hs cs ln rp rn rt z rows asd sm buf bm th od om ow ca bo la pl to rd hh ou) H locs → lv_has ls 9 [(0, .ref bs), (1, .ref (b 8 5)), (2, .ref (a 0)), (3, .ref o), (4, .int x4)] → W p l e room_1 s m #[Value.ref bs] below meth c H locs (601024 - 4 * nn) (7293034 - 24 * nn) (lw_Z below #[Value.ref bs] s) (F0 m 1095 ls []) := by
  intro nn h9 d t sl hn hs cs ln rp rn rt z rows asd sm buf bm th od om ow ca bo la pl to rd hh ou x4 k23 hk23 H locs ls h hI hl
  have hx := S.1
  have hb := S.2.1
  have hown := S.2.2.2.1
  have hts := S.2.2.2.2
  unfold jL_law_1095 at h
  refine lv_goto (tgt := 1618) hx hb dL_law_1095 (by decide) ?_
  refine W.widen (k := 601024 - 4 * nn) (n := 7293034 - 24 * nn) (by omega) (by omega) ?_
  exact jL_law_1618_w l hfl G cy g b a o bs sl_ xs S hr hlocks hK hZ hX hbl hbA hA9 nn h9 d t sl hn hs cs ln rp rn rt z rows asd sm buf bm th od om ow ca bo la pl to rd hh ou x4 k23 hk23 _ _ _ h hI (lv_sub hl [0,1,2,3,4] rfl)
set_option maxHeartbeats 4000000 in
set_option maxRecDepth 100000 in
theorem jL_law_1163_w {p : Program} {e : Env} {s : State} {m : MethodId} {below : List Frame} {meth : Method} {c : Code} (l : Launch) (hfl : l.stackTraces = false) (G : va_G) (cy : Nat → ClassId) (g : Nat) (b : Nat → Nat → Nat) (a : Nat → Nat) (o : Nat) (bs sl_ : Nat) (xs : Nat → Int32) {x0 : Cond} {A : Nat → Prop} (S : CallFix p m c code 9 s #[Value.ref bs] (x0 :: bw_L) RL) (hr : meth.sig.returnType = ret) (hlocks : meth.locks = false) (hK : va_K G vwCl (bw_tys cy) s) (hZ : bw_Z g A s s.heap) (hX : va_X bs sl_ xs s s.heap) (hbl : bs < s.heap.size) (hbA : ¬ A bs) (hA9 : ∀ q, A q → s.heap.size ≤ q) : ∀ (nn : Nat) (h9 : nn + 1 ≤ 5000) (d : bw_A2) (t : bw_A2) (sl : bw_A3) (hn : Int32) (hs : Int32) (cs : bw_A1) (ln : Int32) (rp : Int32) (rn : Int32) (rt : Int32) (z : bw_A1) (rows : bw_A1) (asd : bw_A1) (sm : Int32) (buf : bw_A1) (bm : Int32) (th : Int32) (od : bw_A1) (om : Int32) (ow : Int32) (ca : Int32) (bo : Int32) (la : Int32) (pl : Int32) (to : Int32) (rd : bw_A1) (hh : Int64) (ou : (Nat → Int64)) (x4 : Int32) (k23 : bw_A2 → bw_A2 → bw_A3 → Int32 → Int32 → bw_A1 → Int32 → Int32 → Int32 → Int32 → bw_A1 → bw_A1 → bw_A1 → Int32 → bw_A1 → Int32 → Int32 → bw_A1 → Int32 → Int32 → Int32 → Int32 → Int32 → Int32 → Int32 → bw_A1 → Int64 → (Nat → Int64) → Int32 → Option Unit) (hk23 : (∀ (H : Heap) (locs : List Loc) (ls : Array Slot) (d : bw_A2) (t : bw_A2) (sl : bw_A3) (hn : Int32) (hs : Int32) (cs : bw_A1) (ln : Int32) (rp : Int32) (rn : Int32) (rt : Int32) (z : bw_A1) (rows : bw_A1) (asd : bw_A1) (sm : Int32) (buf : bw_A1) (bm : Int32) (th : Int32) (od : bw_A1) (om : Int32) (ow : Int32) (ca : Int32) (bo : Int32) (la : Int32) (pl : Int32) (to : Int32) (rd : bw_A1) (hh : Int64) (ou : (Nat → Int64)) (x4 : Int32), k23 d t sl hn hs cs ln rp rn rt z rows asd sm buf bm th od om ow ca bo la pl to rd hh ou x4 = some () → bw_I G A s.heap (bw_lW cy b a o d t sl hn hs cs ln rp rn rt z rows asd sm buf bm th od om ow ca bo la pl to rd hh ou) H locs → lv_has ls 9 [(0, .ref bs), (1, .ref (b 8 5)), (2, .ref (a 0)), (3, .ref o), (4, .int x4)] → W p l e room_1 s m #[Value.ref bs] below meth c H locs (601024 - 4 * nn) (7293034 - 24 * nn) (lw_Z below #[Value.ref bs] s) (F0 m 23 ls []))) (H : Heap) (locs : List Loc) (ls : Array Slot), jL_law_1163 sl_ xs k23 d t sl hn hs cs ln rp rn rt z rows asd sm buf bm th od om ow ca bo la pl to rd hh ou x4 = some () → bw_I G A s.heap (bw_lW cy b a o d t sl hn hs cs ln rp rn rt z rows asd sm buf bm th od om ow ca bo la pl to rd hh ou) H locs → lv_has ls 9 [(0, .ref bs), (1, .ref (b 8 5)), (2, .ref (a 0)), (3, .ref o), (4, .int x4)] → W p l e room_1 s m #[Value.ref bs] below meth c H locs (601024 - 4 * nn) (7293034 - 24 * nn) (lw_Z below #[Value.ref bs] s) (F0 m 1163 ls []) := by
  intro nn h9 d t sl hn hs cs ln rp rn rt z rows asd sm buf bm th od om ow ca bo la pl to rd hh ou x4 k23 hk23 H locs ls h hI hl
  have hx := S.1
  have hb := S.2.1
  have hown := S.2.2.2.1
  have hts := S.2.2.2.2
  unfold jL_law_1163 at h
  refine lv_goto (tgt := 1618) hx hb dL_law_1163 (by decide) ?_
  refine W.widen (k := 601024 - 4 * nn) (n := 7293034 - 24 * nn) (by omega) (by omega) ?_
  exact jL_law_1618_w l hfl G cy g b a o bs sl_ xs S hr hlocks hK hZ hX hbl hbA hA9 nn h9 d t sl hn hs cs ln rp rn rt z rows asd sm buf bm th od om ow ca bo la pl to rd hh ou x4 k23 hk23 _ _ _ h hI (lv_sub hl [0,1,2,3,4] rfl)
set_option maxHeartbeats 4000000 in
set_option maxRecDepth 100000 in
theorem jL_law_1231_w {p : Program} {e : Env} {s : State} {m : MethodId} {below : List Frame} {meth : Method} {c : Code} (l : Launch) (hfl : l.stackTraces = false) (G : va_G) (cy : Nat → ClassId) (g : Nat) (b : Nat → Nat → Nat) (a : Nat → Nat) (o : Nat) (bs sl_ : Nat) (xs : Nat → Int32) {x0 : Cond} {A : Nat → Prop} (S : CallFix p m c code 9 s #[Value.ref bs] (x0 :: bw_L) RL) (hr : meth.sig.returnType = ret) (hlocks : meth.locks = false) (hK : va_K G vwCl (bw_tys cy) s) (hZ : bw_Z g A s s.heap) (hX : va_X bs sl_ xs s s.heap) (hbl : bs < s.heap.size) (hbA : ¬ A bs) (hA9 : ∀ q, A q → s.heap.size ≤ q) : ∀ (nn : Nat) (h9 : nn + 1 ≤ 5000) (d : bw_A2) (t : bw_A2) (sl : bw_A3) (hn : Int32) (hs : Int32) (cs : bw_A1) (ln : Int32) (rp : Int32) (rn : Int32) (rt : Int32) (z : bw_A1) (rows : bw_A1) (asd : bw_A1) (sm : Int32) (buf : bw_A1) (bm : Int32) (th : Int32) (od : bw_A1) (om : Int32) (ow : Int32) (ca : Int32) (bo : Int32) (la : Int32) (pl : Int32) (to : Int32) (rd : bw_A1) (hh : Int64) (ou : (Nat → Int64)) (x4 : Int32) (k23 : bw_A2 → bw_A2 → bw_A3 → Int32 → Int32 → bw_A1 → Int32 → Int32 → Int32 → Int32 → bw_A1 → bw_A1 → bw_A1 → Int32 → bw_A1 → Int32 → Int32 → bw_A1 → Int32 → Int32 → Int32 → Int32 → Int32 → Int32 → Int32 → bw_A1 → Int64 → (Nat → Int64) → Int32 → Option Unit) (hk23 : (∀ (H : Heap) (locs : List Loc) (ls : Array Slot) (d : bw_A2) (t : bw_A2) (sl : bw_A3) (hn : Int32) (hs : Int32) (cs : bw_A1) (ln : Int32) (rp : Int32) (rn : Int32) (rt : Int32) (z : bw_A1) (rows : bw_A1) (asd : bw_A1) (sm : Int32) (buf : bw_A1) (bm : Int32) (th : Int32) (od : bw_A1) (om : Int32) (ow : Int32) (ca : Int32) (bo : Int32) (la : Int32) (pl : Int32) (to : Int32) (rd : bw_A1) (hh : Int64) (ou : (Nat → Int64)) (x4 : Int32), k23 d t sl hn hs cs ln rp rn rt z rows asd sm buf bm th od om ow ca bo la pl to rd hh ou x4 = some () → bw_I G A s.heap (bw_lW cy b a o d t sl hn hs cs ln rp rn rt z rows asd sm buf bm th od om ow ca bo la pl to rd hh ou) H locs → lv_has ls 9 [(0, .ref bs), (1, .ref (b 8 5)), (2, .ref (a 0)), (3, .ref o), (4, .int x4)] → W p l e room_1 s m #[Value.ref bs] below meth c H locs (601024 - 4 * nn) (7293034 - 24 * nn) (lw_Z below #[Value.ref bs] s) (F0 m 23 ls []))) (H : Heap) (locs : List Loc) (ls : Array Slot), jL_law_1231 sl_ xs k23 d t sl hn hs cs ln rp rn rt z rows asd sm buf bm th od om ow ca bo la pl to rd hh ou x4 = some () → bw_I G A s.heap (bw_lW cy b a o d t sl hn hs cs ln rp rn rt z rows asd sm buf bm th od om ow ca bo la pl to rd hh ou) H locs → lv_has ls 9 [(0, .ref bs), (1, .ref (b 8 5)), (2, .ref (a 0)), (3, .ref o), (4, .int x4)] → W p l e room_1 s m #[Value.ref bs] below meth c H locs (601024 - 4 * nn) (7293034 - 24 * nn) (lw_Z below #[Value.ref bs] s) (F0 m 1231 ls []) := by
  intro nn h9 d t sl hn hs cs ln rp rn rt z rows asd sm buf bm th od om ow ca bo la pl to rd hh ou x4 k23 hk23 H locs ls h hI hl
  have hx := S.1
  have hb := S.2.1
  have hown := S.2.2.2.1
  have hts := S.2.2.2.2
  unfold jL_law_1231 at h
  refine lv_goto (tgt := 1618) hx hb dL_law_1231 (by decide) ?_
  refine W.widen (k := 601024 - 4 * nn) (n := 7293034 - 24 * nn) (by omega) (by omega) ?_
  exact jL_law_1618_w l hfl G cy g b a o bs sl_ xs S hr hlocks hK hZ hX hbl hbA hA9 nn h9 d t sl hn hs cs ln rp rn rt z rows asd sm buf bm th od om ow ca bo la pl to rd hh ou x4 k23 hk23 _ _ _ h hI (lv_sub hl [0,1,2,3,4] rfl)
set_option maxHeartbeats 4000000 in
set_option maxRecDepth 100000 in
theorem jL_law_1287_w {p : Program} {e : Env} {s : State} {m : MethodId} {below : List Frame} {meth : Method} {c : Code} (l : Launch) (hfl : l.stackTraces = false) (G : va_G) (cy : Nat → ClassId) (g : Nat) (b : Nat → Nat → Nat) (a : Nat → Nat) (o : Nat) (bs sl_ : Nat) (xs : Nat → Int32) {x0 : Cond} {A : Nat → Prop} (S : CallFix p m c code 9 s #[Value.ref bs] (x0 :: bw_L) RL) (hr : meth.sig.returnType = ret) (hlocks : meth.locks = false) (hK : va_K G vwCl (bw_tys cy) s) (hZ : bw_Z g A s s.heap) (hX : va_X bs sl_ xs s s.heap) (hbl : bs < s.heap.size) (hbA : ¬ A bs) (hA9 : ∀ q, A q → s.heap.size ≤ q) : ∀ (nn : Nat) (h9 : nn + 1 ≤ 5000) (d : bw_A2) (t : bw_A2) (sl : bw_A3) (hn : Int32) (hs : Int32) (cs : bw_A1) (ln : Int32) (rp : Int32) (rn : Int32) (rt : Int32) (z : bw_A1) (rows : bw_A1) (asd : bw_A1) (sm : Int32) (buf : bw_A1) (bm : Int32) (th : Int32) (od : bw_A1) (om : Int32) (ow : Int32) (ca : Int32) (bo : Int32) (la : Int32) (pl : Int32) (to : Int32) (rd : bw_A1) (hh : Int64) (ou : (Nat → Int64)) (x4 : Int32) (k23 : bw_A2 → bw_A2 → bw_A3 → Int32 → Int32 → bw_A1 → Int32 → Int32 → Int32 → Int32 → bw_A1 → bw_A1 → bw_A1 → Int32 → bw_A1 → Int32 → Int32 → bw_A1 → Int32 → Int32 → Int32 → Int32 → Int32 → Int32 → Int32 → bw_A1 → Int64 → (Nat → Int64) → Int32 → Option Unit) (hk23 : (∀ (H : Heap) (locs : List Loc) (ls : Array Slot) (d : bw_A2) (t : bw_A2) (sl : bw_A3) (hn : Int32) (hs : Int32) (cs : bw_A1) (ln : Int32) (rp : Int32) (rn : Int32) (rt : Int32) (z : bw_A1) (rows : bw_A1) (asd : bw_A1) (sm : Int32) (buf : bw_A1) (bm : Int32) (th : Int32) (od : bw_A1) (om : Int32) (ow : Int32) (ca : Int32) (bo : Int32) (la : Int32) (pl : Int32) (to : Int32) (rd : bw_A1) (hh : Int64) (ou : (Nat → Int64)) (x4 : Int32), k23 d t sl hn hs cs ln rp rn rt z rows asd sm buf bm th od om ow ca bo la pl to rd hh ou x4 = some () → bw_I G A s.heap (bw_lW cy b a o d t sl hn hs cs ln rp rn rt z rows asd sm buf bm th od om ow ca bo la pl to rd hh ou) H locs → lv_has ls 9 [(0, .ref bs), (1, .ref (b 8 5)), (2, .ref (a 0)), (3, .ref o), (4, .int x4)] → W p l e room_1 s m #[Value.ref bs] below meth c H locs (601024 - 4 * nn) (7293034 - 24 * nn) (lw_Z below #[Value.ref bs] s) (F0 m 23 ls []))) (H : Heap) (locs : List Loc) (ls : Array Slot), jL_law_1287 sl_ xs k23 d t sl hn hs cs ln rp rn rt z rows asd sm buf bm th od om ow ca bo la pl to rd hh ou x4 = some () → bw_I G A s.heap (bw_lW cy b a o d t sl hn hs cs ln rp rn rt z rows asd sm buf bm th od om ow ca bo la pl to rd hh ou) H locs → lv_has ls 9 [(0, .ref bs), (1, .ref (b 8 5)), (2, .ref (a 0)), (3, .ref o), (4, .int x4)] → W p l e room_1 s m #[Value.ref bs] below meth c H locs (601024 - 4 * nn) (7293034 - 24 * nn) (lw_Z below #[Value.ref bs] s) (F0 m 1287 ls []) := by
  intro nn h9 d t sl hn hs cs ln rp rn rt z rows asd sm buf bm th od om ow ca bo la pl to rd hh ou x4 k23 hk23 H locs ls h hI hl
  have hx := S.1
  have hb := S.2.1
  have hown := S.2.2.2.1
  have hts := S.2.2.2.2
  unfold jL_law_1287 at h
  refine lv_goto (tgt := 1618) hx hb dL_law_1287 (by decide) ?_
  refine W.widen (k := 601024 - 4 * nn) (n := 7293034 - 24 * nn) (by omega) (by omega) ?_
  exact jL_law_1618_w l hfl G cy g b a o bs sl_ xs S hr hlocks hK hZ hX hbl hbA hA9 nn h9 d t sl hn hs cs ln rp rn rt z rows asd sm buf bm th od om ow ca bo la pl to rd hh ou x4 k23 hk23 _ _ _ h hI (lv_sub hl [0,1,2,3,4] rfl)
set_option maxHeartbeats 4000000 in
set_option maxRecDepth 100000 in
theorem jL_law_1343_w {p : Program} {e : Env} {s : State} {m : MethodId} {below : List Frame} {meth : Method} {c : Code} (l : Launch) (hfl : l.stackTraces = false) (G : va_G) (cy : Nat → ClassId) (g : Nat) (b : Nat → Nat → Nat) (a : Nat → Nat) (o : Nat) (bs sl_ : Nat) (xs : Nat → Int32) {x0 : Cond} {A : Nat → Prop} (S : CallFix p m c code 9 s #[Value.ref bs] (x0 :: bw_L) RL) (hr : meth.sig.returnType = ret) (hlocks : meth.locks = false) (hK : va_K G vwCl (bw_tys cy) s) (hZ : bw_Z g A s s.heap) (hX : va_X bs sl_ xs s s.heap) (hbl : bs < s.heap.size) (hbA : ¬ A bs) (hA9 : ∀ q, A q → s.heap.size ≤ q) : ∀ (nn : Nat) (h9 : nn + 1 ≤ 5000) (d : bw_A2) (t : bw_A2) (sl : bw_A3) (hn : Int32) (hs : Int32) (cs : bw_A1) (ln : Int32) (rp : Int32) (rn : Int32) (rt : Int32) (z : bw_A1) (rows : bw_A1) (asd : bw_A1) (sm : Int32) (buf : bw_A1) (bm : Int32) (th : Int32) (od : bw_A1) (om : Int32) (ow : Int32) (ca : Int32) (bo : Int32) (la : Int32) (pl : Int32) (to : Int32) (rd : bw_A1) (hh : Int64) (ou : (Nat → Int64)) (x4 : Int32) (k23 : bw_A2 → bw_A2 → bw_A3 → Int32 → Int32 → bw_A1 → Int32 → Int32 → Int32 → Int32 → bw_A1 → bw_A1 → bw_A1 → Int32 → bw_A1 → Int32 → Int32 → bw_A1 → Int32 → Int32 → Int32 → Int32 → Int32 → Int32 → Int32 → bw_A1 → Int64 → (Nat → Int64) → Int32 → Option Unit) (hk23 : (∀ (H : Heap) (locs : List Loc) (ls : Array Slot) (d : bw_A2) (t : bw_A2) (sl : bw_A3) (hn : Int32) (hs : Int32) (cs : bw_A1) (ln : Int32) (rp : Int32) (rn : Int32) (rt : Int32) (z : bw_A1) (rows : bw_A1) (asd : bw_A1) (sm : Int32) (buf : bw_A1) (bm : Int32) (th : Int32) (od : bw_A1) (om : Int32) (ow : Int32) (ca : Int32) (bo : Int32) (la : Int32) (pl : Int32) (to : Int32) (rd : bw_A1) (hh : Int64) (ou : (Nat → Int64)) (x4 : Int32), k23 d t sl hn hs cs ln rp rn rt z rows asd sm buf bm th od om ow ca bo la pl to rd hh ou x4 = some () → bw_I G A s.heap (bw_lW cy b a o d t sl hn hs cs ln rp rn rt z rows asd sm buf bm th od om ow ca bo la pl to rd hh ou) H locs → lv_has ls 9 [(0, .ref bs), (1, .ref (b 8 5)), (2, .ref (a 0)), (3, .ref o), (4, .int x4)] → W p l e room_1 s m #[Value.ref bs] below meth c H locs (601024 - 4 * nn) (7293034 - 24 * nn) (lw_Z below #[Value.ref bs] s) (F0 m 23 ls []))) (H : Heap) (locs : List Loc) (ls : Array Slot), jL_law_1343 sl_ xs k23 d t sl hn hs cs ln rp rn rt z rows asd sm buf bm th od om ow ca bo la pl to rd hh ou x4 = some () → bw_I G A s.heap (bw_lW cy b a o d t sl hn hs cs ln rp rn rt z rows asd sm buf bm th od om ow ca bo la pl to rd hh ou) H locs → lv_has ls 9 [(0, .ref bs), (1, .ref (b 8 5)), (2, .ref (a 0)), (3, .ref o), (4, .int x4)] → W p l e room_1 s m #[Value.ref bs] below meth c H locs (601024 - 4 * nn) (7293034 - 24 * nn) (lw_Z below #[Value.ref bs] s) (F0 m 1343 ls []) := by
  intro nn h9 d t sl hn hs cs ln rp rn rt z rows asd sm buf bm th od om ow ca bo la pl to rd hh ou x4 k23 hk23 H locs ls h hI hl
  have hx := S.1
  have hb := S.2.1
  have hown := S.2.2.2.1
  have hts := S.2.2.2.2
  unfold jL_law_1343 at h
  refine lv_goto (tgt := 1618) hx hb dL_law_1343 (by decide) ?_
  refine W.widen (k := 601024 - 4 * nn) (n := 7293034 - 24 * nn) (by omega) (by omega) ?_
  exact jL_law_1618_w l hfl G cy g b a o bs sl_ xs S hr hlocks hK hZ hX hbl hbA hA9 nn h9 d t sl hn hs cs ln rp rn rt z rows asd sm buf bm th od om ow ca bo la pl to rd hh ou x4 k23 hk23 _ _ _ h hI (lv_sub hl [0,1,2,3,4] rfl)
set_option maxHeartbeats 4000000 in
set_option maxRecDepth 100000 in
theorem jL_law_1423_w {p : Program} {e : Env} {s : State} {m : MethodId} {below : List Frame} {meth : Method} {c : Code} (l : Launch) (hfl : l.stackTraces = false) (G : va_G) (cy : Nat → ClassId) (g : Nat) (b : Nat → Nat → Nat) (a : Nat → Nat) (o : Nat) (bs sl_ : Nat) (xs : Nat → Int32) {x0 : Cond} {A : Nat → Prop} (S : CallFix p m c code 9 s #[Value.ref bs] (x0 :: bw_L) RL) (hr : meth.sig.returnType = ret) (hlocks : meth.locks = false) (hK : va_K G vwCl (bw_tys cy) s) (hZ : bw_Z g A s s.heap) (hX : va_X bs sl_ xs s s.heap) (hbl : bs < s.heap.size) (hbA : ¬ A bs) (hA9 : ∀ q, A q → s.heap.size ≤ q) : ∀ (nn : Nat) (h9 : nn + 1 ≤ 5000) (d : bw_A2) (t : bw_A2) (sl : bw_A3) (hn : Int32) (hs : Int32) (cs : bw_A1) (ln : Int32) (rp : Int32) (rn : Int32) (rt : Int32) (z : bw_A1) (rows : bw_A1) (asd : bw_A1) (sm : Int32) (buf : bw_A1) (bm : Int32) (th : Int32) (od : bw_A1) (om : Int32) (ow : Int32) (ca : Int32) (bo : Int32) (la : Int32) (pl : Int32) (to : Int32) (rd : bw_A1) (hh : Int64) (ou : (Nat → Int64)) (x4 : Int32) (k23 : bw_A2 → bw_A2 → bw_A3 → Int32 → Int32 → bw_A1 → Int32 → Int32 → Int32 → Int32 → bw_A1 → bw_A1 → bw_A1 → Int32 → bw_A1 → Int32 → Int32 → bw_A1 → Int32 → Int32 → Int32 → Int32 → Int32 → Int32 → Int32 → bw_A1 → Int64 → (Nat → Int64) → Int32 → Option Unit) (hk23 : (∀ (H : Heap) (locs : List Loc) (ls : Array Slot) (d : bw_A2) (t : bw_A2) (sl : bw_A3) (hn : Int32) (hs : Int32) (cs : bw_A1) (ln : Int32) (rp : Int32) (rn : Int32) (rt : Int32) (z : bw_A1) (rows : bw_A1) (asd : bw_A1) (sm : Int32) (buf : bw_A1) (bm : Int32) (th : Int32) (od : bw_A1) (om : Int32) (ow : Int32) (ca : Int32) (bo : Int32) (la : Int32) (pl : Int32) (to : Int32) (rd : bw_A1) (hh : Int64) (ou : (Nat → Int64)) (x4 : Int32), k23 d t sl hn hs cs ln rp rn rt z rows asd sm buf bm th od om ow ca bo la pl to rd hh ou x4 = some () → bw_I G A s.heap (bw_lW cy b a o d t sl hn hs cs ln rp rn rt z rows asd sm buf bm th od om ow ca bo la pl to rd hh ou) H locs → lv_has ls 9 [(0, .ref bs), (1, .ref (b 8 5)), (2, .ref (a 0)), (3, .ref o), (4, .int x4)] → W p l e room_1 s m #[Value.ref bs] below meth c H locs (601024 - 4 * nn) (7293034 - 24 * nn) (lw_Z below #[Value.ref bs] s) (F0 m 23 ls []))) (H : Heap) (locs : List Loc) (ls : Array Slot), jL_law_1423 sl_ xs k23 d t sl hn hs cs ln rp rn rt z rows asd sm buf bm th od om ow ca bo la pl to rd hh ou x4 = some () → bw_I G A s.heap (bw_lW cy b a o d t sl hn hs cs ln rp rn rt z rows asd sm buf bm th od om ow ca bo la pl to rd hh ou) H locs → lv_has ls 9 [(0, .ref bs), (1, .ref (b 8 5)), (2, .ref (a 0)), (3, .ref o), (4, .int x4)] → W p l e room_1 s m #[Value.ref bs] below meth c H locs (601024 - 4 * nn) (7293034 - 24 * nn) (lw_Z below #[Value.ref bs] s) (F0 m 1423 ls []) := by
  intro nn h9 d t sl hn hs cs ln rp rn rt z rows asd sm buf bm th od om ow ca bo la pl to rd hh ou x4 k23 hk23 H locs ls h hI hl
  have hx := S.1
  have hb := S.2.1
  have hown := S.2.2.2.1
  have hts := S.2.2.2.2
  unfold jL_law_1423 at h
  refine lv_goto (tgt := 1618) hx hb dL_law_1423 (by decide) ?_
  refine W.widen (k := 601024 - 4 * nn) (n := 7293034 - 24 * nn) (by omega) (by omega) ?_
  exact jL_law_1618_w l hfl G cy g b a o bs sl_ xs S hr hlocks hK hZ hX hbl hbA hA9 nn h9 d t sl hn hs cs ln rp rn rt z rows asd sm buf bm th od om ow ca bo la pl to rd hh ou x4 k23 hk23 _ _ _ h hI (lv_sub hl [0,1,2,3,4] rfl)
set_option maxHeartbeats 4000000 in
set_option maxRecDepth 100000 in
theorem jL_law_1479_w {p : Program} {e : Env} {s : State} {m : MethodId} {below : List Frame} {meth : Method} {c : Code} (l : Launch) (hfl : l.stackTraces = false) (G : va_G) (cy : Nat → ClassId) (g : Nat) (b : Nat → Nat → Nat) (a : Nat → Nat) (o : Nat) (bs sl_ : Nat) (xs : Nat → Int32) {x0 : Cond} {A : Nat → Prop} (S : CallFix p m c code 9 s #[Value.ref bs] (x0 :: bw_L) RL) (hr : meth.sig.returnType = ret) (hlocks : meth.locks = false) (hK : va_K G vwCl (bw_tys cy) s) (hZ : bw_Z g A s s.heap) (hX : va_X bs sl_ xs s s.heap) (hbl : bs < s.heap.size) (hbA : ¬ A bs) (hA9 : ∀ q, A q → s.heap.size ≤ q) : ∀ (nn : Nat) (h9 : nn + 1 ≤ 5000) (d : bw_A2) (t : bw_A2) (sl : bw_A3) (hn : Int32) (hs : Int32) (cs : bw_A1) (ln : Int32) (rp : Int32) (rn : Int32) (rt : Int32) (z : bw_A1) (rows : bw_A1) (asd : bw_A1) (sm : Int32) (buf : bw_A1) (bm : Int32) (th : Int32) (od : bw_A1) (om : Int32) (ow : Int32) (ca : Int32) (bo : Int32) (la : Int32) (pl : Int32) (to : Int32) (rd : bw_A1) (hh : Int64) (ou : (Nat → Int64)) (x4 : Int32) (k23 : bw_A2 → bw_A2 → bw_A3 → Int32 → Int32 → bw_A1 → Int32 → Int32 → Int32 → Int32 → bw_A1 → bw_A1 → bw_A1 → Int32 → bw_A1 → Int32 → Int32 → bw_A1 → Int32 → Int32 → Int32 → Int32 → Int32 → Int32 → Int32 → bw_A1 → Int64 → (Nat → Int64) → Int32 → Option Unit) (hk23 : (∀ (H : Heap) (locs : List Loc) (ls : Array Slot) (d : bw_A2) (t : bw_A2) (sl : bw_A3) (hn : Int32) (hs : Int32) (cs : bw_A1) (ln : Int32) (rp : Int32) (rn : Int32) (rt : Int32) (z : bw_A1) (rows : bw_A1) (asd : bw_A1) (sm : Int32) (buf : bw_A1) (bm : Int32) (th : Int32) (od : bw_A1) (om : Int32) (ow : Int32) (ca : Int32) (bo : Int32) (la : Int32) (pl : Int32) (to : Int32) (rd : bw_A1) (hh : Int64) (ou : (Nat → Int64)) (x4 : Int32), k23 d t sl hn hs cs ln rp rn rt z rows asd sm buf bm th od om ow ca bo la pl to rd hh ou x4 = some () → bw_I G A s.heap (bw_lW cy b a o d t sl hn hs cs ln rp rn rt z rows asd sm buf bm th od om ow ca bo la pl to rd hh ou) H locs → lv_has ls 9 [(0, .ref bs), (1, .ref (b 8 5)), (2, .ref (a 0)), (3, .ref o), (4, .int x4)] → W p l e room_1 s m #[Value.ref bs] below meth c H locs (601024 - 4 * nn) (7293034 - 24 * nn) (lw_Z below #[Value.ref bs] s) (F0 m 23 ls []))) (H : Heap) (locs : List Loc) (ls : Array Slot), jL_law_1479 sl_ xs k23 d t sl hn hs cs ln rp rn rt z rows asd sm buf bm th od om ow ca bo la pl to rd hh ou x4 = some () → bw_I G A s.heap (bw_lW cy b a o d t sl hn hs cs ln rp rn rt z rows asd sm buf bm th od om ow ca bo la pl to rd hh ou) H locs → lv_has ls 9 [(0, .ref bs), (1, .ref (b 8 5)), (2, .ref (a 0)), (3, .ref o), (4, .int x4)] → W p l e room_1 s m #[Value.ref bs] below meth c H locs (601024 - 4 * nn) (7293034 - 24 * nn) (lw_Z below #[Value.ref bs] s) (F0 m 1479 ls []) := by
  intro nn h9 d t sl hn hs cs ln rp rn rt z rows asd sm buf bm th od om ow ca bo la pl to rd hh ou x4 k23 hk23 H locs ls h hI hl
  have hx := S.1
  have hb := S.2.1
  have hown := S.2.2.2.1
  have hts := S.2.2.2.2
  unfold jL_law_1479 at h
  refine lv_goto (tgt := 1618) hx hb dL_law_1479 (by decide) ?_
  refine W.widen (k := 601024 - 4 * nn) (n := 7293034 - 24 * nn) (by omega) (by omega) ?_
  exact jL_law_1618_w l hfl G cy g b a o bs sl_ xs S hr hlocks hK hZ hX hbl hbA hA9 nn h9 d t sl hn hs cs ln rp rn rt z rows asd sm buf bm th od om ow ca bo la pl to rd hh ou x4 k23 hk23 _ _ _ h hI (lv_sub hl [0,1,2,3,4] rfl)
set_option maxHeartbeats 4000000 in
set_option maxRecDepth 100000 in
theorem jL_law_1560_w {p : Program} {e : Env} {s : State} {m : MethodId} {below : List Frame} {meth : Method} {c : Code} (l : Launch) (hfl : l.stackTraces = false) (G : va_G) (cy : Nat → ClassId) (g : Nat) (b : Nat → Nat → Nat) (a : Nat → Nat) (o : Nat) (bs sl_ : Nat) (xs : Nat → Int32) {x0 : Cond} {A : Nat → Prop} (S : CallFix p m c code 9 s #[Value.ref bs] (x0 :: bw_L) RL) (hr : meth.sig.returnType = ret) (hlocks : meth.locks = false) (hK : va_K G vwCl (bw_tys cy) s) (hZ : bw_Z g A s s.heap) (hX : va_X bs sl_ xs s s.heap) (hbl : bs < s.heap.size) (hbA : ¬ A bs) (hA9 : ∀ q, A q → s.heap.size ≤ q) : ∀ (nn : Nat) (h9 : nn + 1 ≤ 5000) (d : bw_A2) (t : bw_A2) (sl : bw_A3) (hn : Int32) (hs : Int32) (cs : bw_A1) (ln : Int32) (rp : Int32) (rn : Int32) (rt : Int32) (z : bw_A1) (rows : bw_A1) (asd : bw_A1) (sm : Int32) (buf : bw_A1) (bm : Int32) (th : Int32) (od : bw_A1) (om : Int32) (ow : Int32) (ca : Int32) (bo : Int32) (la : Int32) (pl : Int32) (to : Int32) (rd : bw_A1) (hh : Int64) (ou : (Nat → Int64)) (x4 : Int32) (k23 : bw_A2 → bw_A2 → bw_A3 → Int32 → Int32 → bw_A1 → Int32 → Int32 → Int32 → Int32 → bw_A1 → bw_A1 → bw_A1 → Int32 → bw_A1 → Int32 → Int32 → bw_A1 → Int32 → Int32 → Int32 → Int32 → Int32 → Int32 → Int32 → bw_A1 → Int64 → (Nat → Int64) → Int32 → Option Unit) (hk23 : (∀ (H : Heap) (locs : List Loc) (ls : Array Slot) (d : bw_A2) (t : bw_A2) (sl : bw_A3) (hn : Int32) (hs : Int32) (cs : bw_A1) (ln : Int32) (rp : Int32) (rn : Int32) (rt : Int32) (z : bw_A1) (rows : bw_A1) (asd : bw_A1) (sm : Int32) (buf : bw_A1) (bm : Int32) (th : Int32) (od : bw_A1) (om : Int32) (ow : Int32) (ca : Int32) (bo : Int32) (la : Int32) (pl : Int32) (to : Int32) (rd : bw_A1) (hh : Int64) (ou : (Nat → Int64)) (x4 : Int32), k23 d t sl hn hs cs ln rp rn rt z rows asd sm buf bm th od om ow ca bo la pl to rd hh ou x4 = some () → bw_I G A s.heap (bw_lW cy b a o d t sl hn hs cs ln rp rn rt z rows asd sm buf bm th od om ow ca bo la pl to rd hh ou) H locs → lv_has ls 9 [(0, .ref bs), (1, .ref (b 8 5)), (2, .ref (a 0)), (3, .ref o), (4, .int x4)] → W p l e room_1 s m #[Value.ref bs] below meth c H locs (601024 - 4 * nn) (7293034 - 24 * nn) (lw_Z below #[Value.ref bs] s) (F0 m 23 ls []))) (H : Heap) (locs : List Loc) (ls : Array Slot), jL_law_1560 sl_ xs k23 d t sl hn hs cs ln rp rn rt z rows asd sm buf bm th od om ow ca bo la pl to rd hh ou x4 = some () → bw_I G A s.heap (bw_lW cy b a o d t sl hn hs cs ln rp rn rt z rows asd sm buf bm th od om ow ca bo la pl to rd hh ou) H locs → lv_has ls 9 [(0, .ref bs), (1, .ref (b 8 5)), (2, .ref (a 0)), (3, .ref o), (4, .int x4)] → W p l e room_1 s m #[Value.ref bs] below meth c H locs (601024 - 4 * nn) (7293034 - 24 * nn) (lw_Z below #[Value.ref bs] s) (F0 m 1560 ls []) := by
  intro nn h9 d t sl hn hs cs ln rp rn rt z rows asd sm buf bm th od om ow ca bo la pl to rd hh ou x4 k23 hk23 H locs ls h hI hl
  have hx := S.1
  have hb := S.2.1
  have hown := S.2.2.2.1
  have hts := S.2.2.2.2
  unfold jL_law_1560 at h
  refine lv_goto (tgt := 1618) hx hb dL_law_1560 (by decide) ?_
  refine W.widen (k := 601024 - 4 * nn) (n := 7293034 - 24 * nn) (by omega) (by omega) ?_
  exact jL_law_1618_w l hfl G cy g b a o bs sl_ xs S hr hlocks hK hZ hX hbl hbA hA9 nn h9 d t sl hn hs cs ln rp rn rt z rows asd sm buf bm th od om ow ca bo la pl to rd hh ou x4 k23 hk23 _ _ _ h hI (lv_sub hl [0,1,2,3,4] rfl)
set_option maxHeartbeats 4000000 in
set_option maxRecDepth 100000 in
theorem jL_law_1601_w {p : Program} {e : Env} {s : State} {m : MethodId} {below : List Frame} {meth : Method} {c : Code} (l : Launch) (hfl : l.stackTraces = false) (G : va_G) (cy : Nat → ClassId) (g : Nat) (b : Nat → Nat → Nat) (a : Nat → Nat) (o : Nat) (bs sl_ : Nat) (xs : Nat → Int32) {x0 : Cond} {A : Nat → Prop} (S : CallFix p m c code 9 s #[Value.ref bs] (x0 :: bw_L) RL) (hr : meth.sig.returnType = ret) (hlocks : meth.locks = false) (hK : va_K G vwCl (bw_tys cy) s) (hZ : bw_Z g A s s.heap) (hX : va_X bs sl_ xs s s.heap) (hbl : bs < s.heap.size) (hbA : ¬ A bs) (hA9 : ∀ q, A q → s.heap.size ≤ q) : ∀ (nn : Nat) (h9 : nn + 1 ≤ 5000) (d : bw_A2) (t : bw_A2) (sl : bw_A3) (hn : Int32) (hs : Int32) (cs : bw_A1) (ln : Int32) (rp : Int32) (rn : Int32) (rt : Int32) (z : bw_A1) (rows : bw_A1) (asd : bw_A1) (sm : Int32) (buf : bw_A1) (bm : Int32) (th : Int32) (od : bw_A1) (om : Int32) (ow : Int32) (ca : Int32) (bo : Int32) (la : Int32) (pl : Int32) (to : Int32) (rd : bw_A1) (hh : Int64) (ou : (Nat → Int64)) (x4 : Int32) (k23 : bw_A2 → bw_A2 → bw_A3 → Int32 → Int32 → bw_A1 → Int32 → Int32 → Int32 → Int32 → bw_A1 → bw_A1 → bw_A1 → Int32 → bw_A1 → Int32 → Int32 → bw_A1 → Int32 → Int32 → Int32 → Int32 → Int32 → Int32 → Int32 → bw_A1 → Int64 → (Nat → Int64) → Int32 → Option Unit) (hk23 : (∀ (H : Heap) (locs : List Loc) (ls : Array Slot) (d : bw_A2) (t : bw_A2) (sl : bw_A3) (hn : Int32) (hs : Int32) (cs : bw_A1) (ln : Int32) (rp : Int32) (rn : Int32) (rt : Int32) (z : bw_A1) (rows : bw_A1) (asd : bw_A1) (sm : Int32) (buf : bw_A1) (bm : Int32) (th : Int32) (od : bw_A1) (om : Int32) (ow : Int32) (ca : Int32) (bo : Int32) (la : Int32) (pl : Int32) (to : Int32) (rd : bw_A1) (hh : Int64) (ou : (Nat → Int64)) (x4 : Int32), k23 d t sl hn hs cs ln rp rn rt z rows asd sm buf bm th od om ow ca bo la pl to rd hh ou x4 = some () → bw_I G A s.heap (bw_lW cy b a o d t sl hn hs cs ln rp rn rt z rows asd sm buf bm th od om ow ca bo la pl to rd hh ou) H locs → lv_has ls 9 [(0, .ref bs), (1, .ref (b 8 5)), (2, .ref (a 0)), (3, .ref o), (4, .int x4)] → W p l e room_1 s m #[Value.ref bs] below meth c H locs (601024 - 4 * nn) (7293034 - 24 * nn) (lw_Z below #[Value.ref bs] s) (F0 m 23 ls []))) (H : Heap) (locs : List Loc) (ls : Array Slot), jL_law_1601 sl_ xs k23 d t sl hn hs cs ln rp rn rt z rows asd sm buf bm th od om ow ca bo la pl to rd hh ou x4 = some () → bw_I G A s.heap (bw_lW cy b a o d t sl hn hs cs ln rp rn rt z rows asd sm buf bm th od om ow ca bo la pl to rd hh ou) H locs → lv_has ls 9 [(0, .ref bs), (1, .ref (b 8 5)), (2, .ref (a 0)), (3, .ref o), (4, .int x4)] → W p l e room_1 s m #[Value.ref bs] below meth c H locs (601024 - 4 * nn) (7293034 - 24 * nn) (lw_Z below #[Value.ref bs] s) (F0 m 1601 ls []) := by
  intro nn h9 d t sl hn hs cs ln rp rn rt z rows asd sm buf bm th od om ow ca bo la pl to rd hh ou x4 k23 hk23 H locs ls h hI hl
  have hx := S.1
  have hb := S.2.1
  have hown := S.2.2.2.1
  have hts := S.2.2.2.2
  unfold jL_law_1601 at h
  refine lv_goto (tgt := 1618) hx hb dL_law_1601 (by decide) ?_
  refine W.widen (k := 601024 - 4 * nn) (n := 7293034 - 24 * nn) (by omega) (by omega) ?_
  exact jL_law_1618_w l hfl G cy g b a o bs sl_ xs S hr hlocks hK hZ hX hbl hbA hA9 nn h9 d t sl hn hs cs ln rp rn rt z rows asd sm buf bm th od om ow ca bo la pl to rd hh ou x4 k23 hk23 _ _ _ h hI (lv_sub hl [0,1,2,3,4] rfl)
set_option maxHeartbeats 4000000 in
set_option maxRecDepth 100000 in
theorem lL_law_23_w {p : Program} {e : Env} {s : State} {m : MethodId} {below : List Frame} {meth : Method} {c : Code} (l : Launch) (hfl : l.stackTraces = false) (G : va_G) (cy : Nat → ClassId) (g : Nat) (b : Nat → Nat → Nat) (a : Nat → Nat) (o : Nat) (bs sl_ : Nat) (xs : Nat → Int32) {x0 : Cond} {A : Nat → Prop} (S : CallFix p m c code 9 s #[Value.ref bs] (x0 :: bw_L) RL) (hr : meth.sig.returnType = ret) (hlocks : meth.locks = false) (hK : va_K G vwCl (bw_tys cy) s) (hZ : bw_Z g A s s.heap) (hX : va_X bs sl_ xs s s.heap) (hbl : bs < s.heap.size) (hbA : ¬ A bs) (hA9 : ∀ q, A q → s.heap.size ≤ q) : ∀ (n : Nat), n ≤ 5000 → ∀ (H : Heap) (locs : List Loc) (ls : Array Slot) (d : bw_A2) (t : bw_A2) (sl : bw_A3) (hn : Int32) (hs : Int32) (cs : bw_A1) (ln : Int32) (rp : Int32) (rn : Int32) (rt : Int32) (z : bw_A1) (rows : bw_A1) (asd : bw_A1) (sm : Int32) (buf : bw_A1) (bm : Int32) (th : Int32) (od : bw_A1) (om : Int32) (ow : Int32) (ca : Int32) (bo : Int32) (la : Int32) (pl : Int32) (to : Int32) (rd : bw_A1) (hh : Int64) (ou : (Nat → Int64)) (x4 : Int32), lL_law_23 sl_ xs n d t sl hn hs cs ln rp rn rt z rows asd sm buf bm th od om ow ca bo la pl to rd hh ou x4 = some () → bw_I G A s.heap (bw_lW cy b a o d t sl hn hs cs ln rp rn rt z rows asd sm buf bm th od om ow ca bo la pl to rd hh ou) H locs → lv_has ls 9 [(0, .ref bs), (1, .ref (b 8 5)), (2, .ref (a 0)), (3, .ref o), (4, .int x4)] → W p l e room_1 s m #[Value.ref bs] below meth c H locs (601024 - 4 * n) (7293034 - 24 * n) (lw_Z below #[Value.ref bs] s) (F0 m 23 ls []) := by
  have hx := S.1
  have hb := S.2.1
  have hown := S.2.2.2.1
  have hts := S.2.2.2.2
  intro n
  induction n with
  | zero => intro _ H locs ls d t sl hn hs cs ln rp rn rt z rows asd sm buf bm th od om ow ca bo la pl to rd hh ou x4 h; exact bw_none h
  | succ n ih =>
    intro h9
    have ih := ih (by omega)
    intro H locs ls d t sl hn hs cs ln rp rn rt z rows asd sm buf bm th od om ow ca bo la pl to rd hh ou x4 h hI hl
    have h : bL_law_23 sl_ xs (lL_law_23 sl_ xs n) d t sl hn hs cs ln rp rn rt z rows asd sm buf bm th od om ow ca bo la pl to rd hh ou x4 = some () := h
    unfold bL_law_23 at h
    refine lv_iload hx hb dL_law_23 (lv_at hl 4 rfl) ?_
    refine lv_aload_n hx hb dL_law_25 rfl (lv_at hl 0 rfl) ?_
    refine va_slen hx hb hX hbl hbA hI.2.2.1 dL_law_26 ?_
    refine lv_iconst (v := 4) hx hb dL_law_27 rfl ?_
    refine lv_isub hx hb dL_law_28 ?_
    refine lv_icmp_gt (tgt := 1624) hx hb dL_law_29 (by decide) (fun c_29 => ?_) (fun c_29 => ?_)
    · rw [if_pos c_29] at h
      refine lv_iconst (v := 1) hx hb dL_law_1624 rfl ?_
      refine va_forget (fun q hq => hA9 _ (hI.2.2.1.2.2 q hq)) ?_
      refine W.widen (k := 601024) (n := 7293034) (by omega) (by omega) ?_
      exact lw_ret (Drawn.sameBut.refl s.drawn lw_cs) hx hb hr hlocks dL_law_1625
    rw [if_neg c_29] at h
    refine lv_aload_n hx hb dL_law_32 rfl (lv_at hl 0 rfl) ?_
    refine lv_iload hx hb dL_law_33 (lv_at hl 4 rfl) ?_
    obtain ⟨v35, hv, h⟩ := bw_b1_e h
    refine bw_scr hx hb hX hbl hbA hI hv dL_law_35 ?_
    refine lv_bipush (v := 31) hx hb dL_law_36 (by decide) ?_
    refine lv_iand hx hb dL_law_38 ?_
    by_cases c_39_0 : (v35 &&& 31) = 0
    · rw [if_pos c_39_0] at h
      refine lv_tableIn (tgt := 156) hx hb dL_law_39 (by rw [c_39_0]; decide) (by rw [c_39_0]; decide) (by rw [c_39_0]; rfl) (by decide) ?_
      refine lv_aload_n hx hb dL_law_156 rfl (lv_at hl 1 rfl) ?_
      refine lv_aload_n hx hb dL_law_157 rfl (lv_at hl 0 rfl) ?_
      refine lv_iload hx hb dL_law_158 (lv_at hl 4 rfl) ?_
      refine lv_iconst (v := 1) hx hb dL_law_160 rfl ?_
      refine lv_iadd hx hb dL_law_161 ?_
      obtain ⟨v162, hv, h⟩ := bw_b1_e h
      refine bw_scr hx hb hX hbl hbA hI hv dL_law_162 ?_
      refine lv_aload_n hx hb dL_law_163 rfl (lv_at hl 0 rfl) ?_
      refine lv_iload hx hb dL_law_164 (lv_at hl 4 rfl) ?_
      refine lv_iconst (v := 2) hx hb dL_law_166 rfl ?_
      refine lv_iadd hx hb dL_law_167 ?_
      obtain ⟨v168, hv, h⟩ := bw_b1_e h
      refine bw_scr hx hb hX hbl hbA hI hv dL_law_168 ?_
      refine lv_aload_n hx hb dL_law_169 rfl (lv_at hl 3 rfl) ?_
      obtain ⟨r170, d_170, sl_170, hn_170, hs_170, ou_170, hc, h⟩ := bw_b6_e h
      refine bw_callH S hK hZ hI (mL_open l hfl G cy g b o d t sl hn hs cs ln rp rn rt v162 v168 ou r170 d_170 sl_170 hn_170 hs_170 ou_170 hc) Y_L_open l_L_86 ⟨(Nat.le_of_ble_eq_true rfl), (Nat.le_of_ble_eq_true rfl)⟩ (ws' := (bw_lW cy b a o d_170 t sl_170 hn_170 hs_170 cs ln rp rn rt z rows asd sm buf bm th od om ow ca bo la pl to rd hh ou_170)) (bw_pl_h cy b a o d t sl hn hs cs ln rp rn rt z rows asd sm buf bm th od om ow ca bo la pl to rd hh ou) (bw_pl_h cy b a o d_170 t sl_170 hn_170 hs_170 cs ln rp rn rt z rows asd sm buf bm th od om ow ca bo la pl to rd hh ou_170).symm rfl rfl hl.1 (rest := []) (st1 := [.int r170]) rfl rfl (Nat.le_of_ble_eq_true rfl) dL_law_170 ⟨(by show _ ≤ 601024; omega), (by show _ ≤ 7293034; omega)⟩ (fun H locs hI => ?_)
      refine lv_istore (lv' := [(5, .int r170), (0, .ref bs), (1, .ref (b 8 5)), (2, .ref (a 0)), (3, .ref o), (4, .int x4)]) hx hb dL_law_173 hl (by decide) rfl (fun ls hl => ?_)
      refine lv_aload_n hx hb dL_law_175 rfl (lv_at hl 3 rfl) ?_
      refine lv_aload_n hx hb dL_law_176 rfl (lv_at hl 1 rfl) ?_
      refine lv_iload hx hb dL_law_177 (lv_at hl 5 rfl) ?_
      refine lv_iconst (v := 1) hx hb dL_law_179 rfl ?_
      refine lv_iadd hx hb dL_law_180 ?_
      obtain ⟨v181, hv, h⟩ := bw_b1_e h
      refine bw_scr hx hb hX hbl hbA hI hv dL_law_181 ?_
      refine lv_aload_n hx hb dL_law_182 rfl (lv_at hl 1 rfl) ?_
      refine lv_iload hx hb dL_law_183 (lv_at hl 5 rfl) ?_
      refine lv_iconst (v := 2) hx hb dL_law_185 rfl ?_
      refine lv_iadd hx hb dL_law_186 ?_
      obtain ⟨v187, hv, h⟩ := bw_b1_e h
      refine bw_scr hx hb hX hbl hbA hI hv dL_law_187 ?_
      obtain ⟨r188, z_188, rows_188, sm_188, th_188, hc, h⟩ := bw_b5_e h
      refine bw_callV S hK hZ hI (mX6_open l G cy g a z rows asd sm buf bm th od om ow ca bo la pl to rd hh v181 v187 r188 z_188 rows_188 sm_188 th_188 hc) Y_X6_open V_X6_open l_L_91 ⟨(Nat.le_of_ble_eq_true rfl), (Nat.le_of_ble_eq_true rfl)⟩ (q0 := 0) rfl rfl rfl (ws' := (bw_lW cy b a o d_170 t sl_170 hn_170 hs_170 cs ln rp rn rt z_188 rows_188 asd sm_188 buf bm th_188 od om ow ca bo la pl to rd hh ou_170)) (bw_pl_m cy b a o d_170 t sl_170 hn_170 hs_170 cs ln rp rn rt z rows asd sm buf bm th od om ow ca bo la pl to rd hh ou_170) (bw_pl_m cy b a o d_170 t sl_170 hn_170 hs_170 cs ln rp rn rt z_188 rows_188 asd sm_188 buf bm th_188 od om ow ca bo la pl to rd hh ou_170).symm rfl rfl hl.1 (rest := []) (st1 := [.int r188]) rfl rfl (Nat.le_of_ble_eq_true rfl) dL_law_188 ⟨(by show _ ≤ 601024; omega), (by show _ ≤ 7293034; omega)⟩ (fun H locs hI => ?_)
      refine lv_istore (lv' := [(6, .int r188), (5, .int r170), (0, .ref bs), (1, .ref (b 8 5)), (2, .ref (a 0)), (3, .ref o), (4, .int x4)]) hx hb dL_law_191 hl (by decide) rfl (fun ls hl => ?_)
      refine lv_aload_n hx hb dL_law_193 rfl (lv_at hl 4 rfl) ?_
      obtain ⟨r194, hc, h⟩ := bw_b1_e h
      refine bw_callV S hK hZ hI (mX6_thrown l G cy g a z_188 rows_188 asd sm_188 buf bm th_188 od om ow ca bo la pl to rd hh r194 hc) Y_X6_thrown V_X6_thrown l_L_92 ⟨(Nat.le_of_ble_eq_true rfl), (Nat.le_of_ble_eq_true rfl)⟩ (q0 := 0) rfl rfl rfl (ws' := (bw_lW cy b a o d_170 t sl_170 hn_170 hs_170 cs ln rp rn rt z_188 rows_188 asd sm_188 buf bm th_188 od om ow ca bo la pl to rd hh ou_170)) (bw_pl_m cy b a o d_170 t sl_170 hn_170 hs_170 cs ln rp rn rt z_188 rows_188 asd sm_188 buf bm th_188 od om ow ca bo la pl to rd hh ou_170) (bw_pl_m cy b a o d_170 t sl_170 hn_170 hs_170 cs ln rp rn rt z_188 rows_188 asd sm_188 buf bm th_188 od om ow ca bo la pl to rd hh ou_170).symm rfl rfl hl.1 (rest := []) (st1 := [.int r194]) rfl rfl (Nat.le_of_ble_eq_true rfl) dL_law_194 ⟨(by show _ ≤ 601024; omega), (by show _ ≤ 7293034; omega)⟩ (fun H locs hI => ?_)
      refine lv_iload hx hb dL_law_197 (lv_at hl 1 rfl) ?_
      refine lv_icmp_eq (tgt := 204) hx hb dL_law_199 (by decide) (fun c_199 => ?_) (fun c_199 => ?_)
      · rw [if_pos c_199] at h
        refine lv_iload hx hb dL_law_204 (lv_at hl 1 rfl) ?_
        refine lv_if_ne (tgt := 221) hx hb dL_law_206 (by decide) (fun c_206 => ?_) (fun c_206 => ?_)
        · rw [if_neg c_206] at h
          refine W.widen (k := 601024 - 4 * n) (n := 7293034 - 24 * n) (by omega) (by omega) ?_
          exact jL_law_221_w l hfl G cy g b a o bs sl_ xs S hr hlocks hK hZ hX hbl hbA hA9 n h9 d_170 t sl_170 hn_170 hs_170 cs ln rp rn rt z_188 rows_188 asd sm_188 buf bm th_188 od om ow ca bo la pl to rd hh ou_170 x4 (lL_law_23 sl_ xs n) ih _ _ _ h hI (lv_sub hl [2,3,4,5,6] rfl)
        rw [if_pos c_206] at h
        refine lv_aload_n hx hb dL_law_209 rfl (lv_at hl 5 rfl) ?_
        refine lv_iconst (v := 0) hx hb dL_law_210 rfl ?_
        refine bw_lald hx hb hK hI 94 (by decide) rfl dL_law_211 ?_
        refine lv_iload hx hb dL_law_212 (lv_at hl 0 rfl) ?_
        refine lv_i2l hx hb dL_law_214 rfl ?_
        refine W.lcmp hx hb dL_law_215 ?_
        refine lv_if_eq (tgt := 221) hx hb dL_law_216 (by decide) (fun c_216 => ?_) (fun c_216 => ?_)
        · rw [if_pos c_216] at h
          refine W.widen (k := 601024 - 4 * n) (n := 7293034 - 24 * n) (by omega) (by omega) ?_
          exact jL_law_221_w l hfl G cy g b a o bs sl_ xs S hr hlocks hK hZ hX hbl hbA hA9 n h9 d_170 t sl_170 hn_170 hs_170 cs ln rp rn rt z_188 rows_188 asd sm_188 buf bm th_188 od om ow ca bo la pl to rd hh ou_170 x4 (lL_law_23 sl_ xs n) ih _ _ _ h hI (lv_sub hl [2,3,4,5,6] rfl)
        rw [if_neg c_216] at h
        refine lv_iconst (v := 0) hx hb dL_law_219 rfl ?_
        exact bw_none h
      rw [if_neg c_199] at h
      refine lv_iconst (v := 0) hx hb dL_law_202 rfl ?_
      exact bw_none h
    rw [if_neg c_39_0] at h
    by_cases c_39_1 : (v35 &&& 31) = 1
    · rw [if_pos c_39_1] at h
      refine lv_tableIn (tgt := 224) hx hb dL_law_39 (by rw [c_39_1]; decide) (by rw [c_39_1]; decide) (by rw [c_39_1]; rfl) (by decide) ?_
      refine lv_aload_n hx hb dL_law_224 rfl (lv_at hl 1 rfl) ?_
      refine lv_aload_n hx hb dL_law_225 rfl (lv_at hl 0 rfl) ?_
      refine lv_iload hx hb dL_law_226 (lv_at hl 4 rfl) ?_
      refine lv_iconst (v := 1) hx hb dL_law_228 rfl ?_
      refine lv_iadd hx hb dL_law_229 ?_
      obtain ⟨v230, hv, h⟩ := bw_b1_e h
      refine bw_scr hx hb hX hbl hbA hI hv dL_law_230 ?_
      refine lv_aload_n hx hb dL_law_231 rfl (lv_at hl 0 rfl) ?_
      refine lv_iload hx hb dL_law_232 (lv_at hl 4 rfl) ?_
      refine lv_iconst (v := 2) hx hb dL_law_234 rfl ?_
      refine lv_iadd hx hb dL_law_235 ?_
      obtain ⟨v236, hv, h⟩ := bw_b1_e h
      refine bw_scr hx hb hX hbl hbA hI hv dL_law_236 ?_
      refine lv_aload_n hx hb dL_law_237 rfl (lv_at hl 3 rfl) ?_
      obtain ⟨r238, d_238, sl_238, hn_238, hs_238, ou_238, hc, h⟩ := bw_b6_e h
      refine bw_callH S hK hZ hI (mL_plan l hfl G cy g b o d t sl hn hs cs ln rp rn rt v230 v236 ou r238 d_238 sl_238 hn_238 hs_238 ou_238 hc) Y_L_plan l_L_95 ⟨(Nat.le_of_ble_eq_true rfl), (Nat.le_of_ble_eq_true rfl)⟩ (ws' := (bw_lW cy b a o d_238 t sl_238 hn_238 hs_238 cs ln rp rn rt z rows asd sm buf bm th od om ow ca bo la pl to rd hh ou_238)) (bw_pl_h cy b a o d t sl hn hs cs ln rp rn rt z rows asd sm buf bm th od om ow ca bo la pl to rd hh ou) (bw_pl_h cy b a o d_238 t sl_238 hn_238 hs_238 cs ln rp rn rt z rows asd sm buf bm th od om ow ca bo la pl to rd hh ou_238).symm rfl rfl hl.1 (rest := []) (st1 := [.int r238]) rfl rfl (Nat.le_of_ble_eq_true rfl) dL_law_238 ⟨(by show _ ≤ 601024; omega), (by show _ ≤ 7293034; omega)⟩ (fun H locs hI => ?_)
      refine lv_istore (lv' := [(5, .int r238), (0, .ref bs), (1, .ref (b 8 5)), (2, .ref (a 0)), (3, .ref o), (4, .int x4)]) hx hb dL_law_241 hl (by decide) rfl (fun ls hl => ?_)
      refine lv_aload_n hx hb dL_law_243 rfl (lv_at hl 3 rfl) ?_
      refine lv_aload_n hx hb dL_law_244 rfl (lv_at hl 1 rfl) ?_
      refine lv_iload hx hb dL_law_245 (lv_at hl 5 rfl) ?_
      refine lv_iconst (v := 1) hx hb dL_law_247 rfl ?_
      refine lv_iadd hx hb dL_law_248 ?_
      obtain ⟨v249, hv, h⟩ := bw_b1_e h
      refine bw_scr hx hb hX hbl hbA hI hv dL_law_249 ?_
      refine lv_aload_n hx hb dL_law_250 rfl (lv_at hl 1 rfl) ?_
      refine lv_iload hx hb dL_law_251 (lv_at hl 5 rfl) ?_
      refine lv_iconst (v := 2) hx hb dL_law_253 rfl ?_
      refine lv_iadd hx hb dL_law_254 ?_
      obtain ⟨v255, hv, h⟩ := bw_b1_e h
      refine bw_scr hx hb hX hbl hbA hI hv dL_law_255 ?_
      obtain ⟨r256, z_256, rows_256, sm_256, th_256, hc, h⟩ := bw_b5_e h
      refine bw_callV S hK hZ hI (mX6_plan l G cy g a z rows asd sm buf bm th od om ow ca bo la pl to rd hh v249 v255 r256 z_256 rows_256 sm_256 th_256 hc) Y_X6_plan V_X6_plan l_L_97 ⟨(Nat.le_of_ble_eq_true rfl), (Nat.le_of_ble_eq_true rfl)⟩ (q0 := 0) rfl rfl rfl (ws' := (bw_lW cy b a o d_238 t sl_238 hn_238 hs_238 cs ln rp rn rt z_256 rows_256 asd sm_256 buf bm th_256 od om ow ca bo la pl to rd hh ou_238)) (bw_pl_m cy b a o d_238 t sl_238 hn_238 hs_238 cs ln rp rn rt z rows asd sm buf bm th od om ow ca bo la pl to rd hh ou_238) (bw_pl_m cy b a o d_238 t sl_238 hn_238 hs_238 cs ln rp rn rt z_256 rows_256 asd sm_256 buf bm th_256 od om ow ca bo la pl to rd hh ou_238).symm rfl rfl hl.1 (rest := []) (st1 := [.int r256]) rfl rfl (Nat.le_of_ble_eq_true rfl) dL_law_256 ⟨(by show _ ≤ 601024; omega), (by show _ ≤ 7293034; omega)⟩ (fun H locs hI => ?_)
      refine lv_istore (lv' := [(6, .int r256), (5, .int r238), (0, .ref bs), (1, .ref (b 8 5)), (2, .ref (a 0)), (3, .ref o), (4, .int x4)]) hx hb dL_law_259 hl (by decide) rfl (fun ls hl => ?_)
      refine lv_aload_n hx hb dL_law_261 rfl (lv_at hl 4 rfl) ?_
      obtain ⟨r262, hc, h⟩ := bw_b1_e h
      refine bw_callV S hK hZ hI (mX6_thrown l G cy g a z_256 rows_256 asd sm_256 buf bm th_256 od om ow ca bo la pl to rd hh r262 hc) Y_X6_thrown V_X6_thrown l_L_92 ⟨(Nat.le_of_ble_eq_true rfl), (Nat.le_of_ble_eq_true rfl)⟩ (q0 := 0) rfl rfl rfl (ws' := (bw_lW cy b a o d_238 t sl_238 hn_238 hs_238 cs ln rp rn rt z_256 rows_256 asd sm_256 buf bm th_256 od om ow ca bo la pl to rd hh ou_238)) (bw_pl_m cy b a o d_238 t sl_238 hn_238 hs_238 cs ln rp rn rt z_256 rows_256 asd sm_256 buf bm th_256 od om ow ca bo la pl to rd hh ou_238) (bw_pl_m cy b a o d_238 t sl_238 hn_238 hs_238 cs ln rp rn rt z_256 rows_256 asd sm_256 buf bm th_256 od om ow ca bo la pl to rd hh ou_238).symm rfl rfl hl.1 (rest := []) (st1 := [.int r262]) rfl rfl (Nat.le_of_ble_eq_true rfl) dL_law_262 ⟨(by show _ ≤ 601024; omega), (by show _ ≤ 7293034; omega)⟩ (fun H locs hI => ?_)
      refine lv_iload hx hb dL_law_265 (lv_at hl 1 rfl) ?_
      refine lv_icmp_eq (tgt := 272) hx hb dL_law_267 (by decide) (fun c_267 => ?_) (fun c_267 => ?_)
      · rw [if_pos c_267] at h
        refine lv_iload hx hb dL_law_272 (lv_at hl 1 rfl) ?_
        refine lv_if_ne (tgt := 289) hx hb dL_law_274 (by decide) (fun c_274 => ?_) (fun c_274 => ?_)
        · rw [if_neg c_274] at h
          refine W.widen (k := 601024 - 4 * n) (n := 7293034 - 24 * n) (by omega) (by omega) ?_
          exact jL_law_289_w l hfl G cy g b a o bs sl_ xs S hr hlocks hK hZ hX hbl hbA hA9 n h9 d_238 t sl_238 hn_238 hs_238 cs ln rp rn rt z_256 rows_256 asd sm_256 buf bm th_256 od om ow ca bo la pl to rd hh ou_238 x4 (lL_law_23 sl_ xs n) ih _ _ _ h hI (lv_sub hl [2,3,4,5,6] rfl)
        rw [if_pos c_274] at h
        refine lv_aload_n hx hb dL_law_277 rfl (lv_at hl 5 rfl) ?_
        refine lv_iconst (v := 0) hx hb dL_law_278 rfl ?_
        refine bw_lald hx hb hK hI 94 (by decide) rfl dL_law_279 ?_
        refine lv_iload hx hb dL_law_280 (lv_at hl 0 rfl) ?_
        refine lv_i2l hx hb dL_law_282 rfl ?_
        refine W.lcmp hx hb dL_law_283 ?_
        refine lv_if_eq (tgt := 289) hx hb dL_law_284 (by decide) (fun c_284 => ?_) (fun c_284 => ?_)
        · rw [if_pos c_284] at h
          refine W.widen (k := 601024 - 4 * n) (n := 7293034 - 24 * n) (by omega) (by omega) ?_
          exact jL_law_289_w l hfl G cy g b a o bs sl_ xs S hr hlocks hK hZ hX hbl hbA hA9 n h9 d_238 t sl_238 hn_238 hs_238 cs ln rp rn rt z_256 rows_256 asd sm_256 buf bm th_256 od om ow ca bo la pl to rd hh ou_238 x4 (lL_law_23 sl_ xs n) ih _ _ _ h hI (lv_sub hl [2,3,4,5,6] rfl)
        rw [if_neg c_284] at h
        refine lv_iconst (v := 0) hx hb dL_law_287 rfl ?_
        exact bw_none h
      rw [if_neg c_267] at h
      refine lv_iconst (v := 0) hx hb dL_law_270 rfl ?_
      exact bw_none h
    rw [if_neg c_39_1] at h
    by_cases c_39_2 : (v35 &&& 31) = 2
    · rw [if_pos c_39_2] at h
      refine lv_tableIn (tgt := 292) hx hb dL_law_39 (by rw [c_39_2]; decide) (by rw [c_39_2]; decide) (by rw [c_39_2]; rfl) (by decide) ?_
      refine lv_aload_n hx hb dL_law_292 rfl (lv_at hl 1 rfl) ?_
      refine lv_aload_n hx hb dL_law_293 rfl (lv_at hl 0 rfl) ?_
      refine lv_iload hx hb dL_law_294 (lv_at hl 4 rfl) ?_
      refine lv_iconst (v := 1) hx hb dL_law_296 rfl ?_
      refine lv_iadd hx hb dL_law_297 ?_
      obtain ⟨v298, hv, h⟩ := bw_b1_e h
      refine bw_scr hx hb hX hbl hbA hI hv dL_law_298 ?_
      refine lv_aload_n hx hb dL_law_299 rfl (lv_at hl 0 rfl) ?_
      refine lv_iload hx hb dL_law_300 (lv_at hl 4 rfl) ?_
      refine lv_iconst (v := 2) hx hb dL_law_302 rfl ?_
      refine lv_iadd hx hb dL_law_303 ?_
      obtain ⟨v304, hv, h⟩ := bw_b1_e h
      refine bw_scr hx hb hX hbl hbA hI hv dL_law_304 ?_
      refine lv_aload_n hx hb dL_law_305 rfl (lv_at hl 3 rfl) ?_
      obtain ⟨r306, d_306, sl_306, hn_306, hs_306, ou_306, hc, h⟩ := bw_b6_e h
      refine bw_callH S hK hZ hI (mL_rank l hfl G cy g b o d t sl hn hs cs ln rp rn rt v298 v304 ou r306 d_306 sl_306 hn_306 hs_306 ou_306 hc) Y_L_rank l_L_98 ⟨(Nat.le_of_ble_eq_true rfl), (Nat.le_of_ble_eq_true rfl)⟩ (ws' := (bw_lW cy b a o d_306 t sl_306 hn_306 hs_306 cs ln rp rn rt z rows asd sm buf bm th od om ow ca bo la pl to rd hh ou_306)) (bw_pl_h cy b a o d t sl hn hs cs ln rp rn rt z rows asd sm buf bm th od om ow ca bo la pl to rd hh ou) (bw_pl_h cy b a o d_306 t sl_306 hn_306 hs_306 cs ln rp rn rt z rows asd sm buf bm th od om ow ca bo la pl to rd hh ou_306).symm rfl rfl hl.1 (rest := []) (st1 := [.int r306]) rfl rfl (Nat.le_of_ble_eq_true rfl) dL_law_306 ⟨(by show _ ≤ 601024; omega), (by show _ ≤ 7293034; omega)⟩ (fun H locs hI => ?_)
      refine lv_istore (lv' := [(5, .int r306), (0, .ref bs), (1, .ref (b 8 5)), (2, .ref (a 0)), (3, .ref o), (4, .int x4)]) hx hb dL_law_309 hl (by decide) rfl (fun ls hl => ?_)
      refine lv_aload_n hx hb dL_law_311 rfl (lv_at hl 3 rfl) ?_
      refine lv_aload_n hx hb dL_law_312 rfl (lv_at hl 1 rfl) ?_
      refine lv_iload hx hb dL_law_313 (lv_at hl 5 rfl) ?_
      refine lv_iconst (v := 1) hx hb dL_law_315 rfl ?_
      refine lv_iadd hx hb dL_law_316 ?_
      obtain ⟨v317, hv, h⟩ := bw_b1_e h
      refine bw_scr hx hb hX hbl hbA hI hv dL_law_317 ?_
      refine lv_aload_n hx hb dL_law_318 rfl (lv_at hl 1 rfl) ?_
      refine lv_iload hx hb dL_law_319 (lv_at hl 5 rfl) ?_
      refine lv_iconst (v := 2) hx hb dL_law_321 rfl ?_
      refine lv_iadd hx hb dL_law_322 ?_
      obtain ⟨v323, hv, h⟩ := bw_b1_e h
      refine bw_scr hx hb hX hbl hbA hI hv dL_law_323 ?_
      obtain ⟨r324, z_324, rows_324, sm_324, th_324, hc, h⟩ := bw_b5_e h
      refine bw_callV S hK hZ hI (mX6_rank l G cy g a z rows asd sm buf bm th od om ow ca bo la pl to rd hh v317 v323 r324 z_324 rows_324 sm_324 th_324 hc) Y_X6_rank V_X6_rank l_L_100 ⟨(Nat.le_of_ble_eq_true rfl), (Nat.le_of_ble_eq_true rfl)⟩ (q0 := 0) rfl rfl rfl (ws' := (bw_lW cy b a o d_306 t sl_306 hn_306 hs_306 cs ln rp rn rt z_324 rows_324 asd sm_324 buf bm th_324 od om ow ca bo la pl to rd hh ou_306)) (bw_pl_m cy b a o d_306 t sl_306 hn_306 hs_306 cs ln rp rn rt z rows asd sm buf bm th od om ow ca bo la pl to rd hh ou_306) (bw_pl_m cy b a o d_306 t sl_306 hn_306 hs_306 cs ln rp rn rt z_324 rows_324 asd sm_324 buf bm th_324 od om ow ca bo la pl to rd hh ou_306).symm rfl rfl hl.1 (rest := []) (st1 := [.int r324]) rfl rfl (Nat.le_of_ble_eq_true rfl) dL_law_324 ⟨(by show _ ≤ 601024; omega), (by show _ ≤ 7293034; omega)⟩ (fun H locs hI => ?_)
      refine lv_istore (lv' := [(6, .int r324), (5, .int r306), (0, .ref bs), (1, .ref (b 8 5)), (2, .ref (a 0)), (3, .ref o), (4, .int x4)]) hx hb dL_law_327 hl (by decide) rfl (fun ls hl => ?_)
      refine lv_aload_n hx hb dL_law_329 rfl (lv_at hl 4 rfl) ?_
      obtain ⟨r330, hc, h⟩ := bw_b1_e h
      refine bw_callV S hK hZ hI (mX6_thrown l G cy g a z_324 rows_324 asd sm_324 buf bm th_324 od om ow ca bo la pl to rd hh r330 hc) Y_X6_thrown V_X6_thrown l_L_92 ⟨(Nat.le_of_ble_eq_true rfl), (Nat.le_of_ble_eq_true rfl)⟩ (q0 := 0) rfl rfl rfl (ws' := (bw_lW cy b a o d_306 t sl_306 hn_306 hs_306 cs ln rp rn rt z_324 rows_324 asd sm_324 buf bm th_324 od om ow ca bo la pl to rd hh ou_306)) (bw_pl_m cy b a o d_306 t sl_306 hn_306 hs_306 cs ln rp rn rt z_324 rows_324 asd sm_324 buf bm th_324 od om ow ca bo la pl to rd hh ou_306) (bw_pl_m cy b a o d_306 t sl_306 hn_306 hs_306 cs ln rp rn rt z_324 rows_324 asd sm_324 buf bm th_324 od om ow ca bo la pl to rd hh ou_306).symm rfl rfl hl.1 (rest := []) (st1 := [.int r330]) rfl rfl (Nat.le_of_ble_eq_true rfl) dL_law_330 ⟨(by show _ ≤ 601024; omega), (by show _ ≤ 7293034; omega)⟩ (fun H locs hI => ?_)
      refine lv_iload hx hb dL_law_333 (lv_at hl 1 rfl) ?_
      refine lv_icmp_eq (tgt := 340) hx hb dL_law_335 (by decide) (fun c_335 => ?_) (fun c_335 => ?_)
      · rw [if_pos c_335] at h
        refine lv_iload hx hb dL_law_340 (lv_at hl 1 rfl) ?_
        refine lv_if_ne (tgt := 357) hx hb dL_law_342 (by decide) (fun c_342 => ?_) (fun c_342 => ?_)
        · rw [if_neg c_342] at h
          refine W.widen (k := 601024 - 4 * n) (n := 7293034 - 24 * n) (by omega) (by omega) ?_
          exact jL_law_357_w l hfl G cy g b a o bs sl_ xs S hr hlocks hK hZ hX hbl hbA hA9 n h9 d_306 t sl_306 hn_306 hs_306 cs ln rp rn rt z_324 rows_324 asd sm_324 buf bm th_324 od om ow ca bo la pl to rd hh ou_306 x4 (lL_law_23 sl_ xs n) ih _ _ _ h hI (lv_sub hl [2,3,4,5,6] rfl)
        rw [if_pos c_342] at h
        refine lv_aload_n hx hb dL_law_345 rfl (lv_at hl 5 rfl) ?_
        refine lv_iconst (v := 0) hx hb dL_law_346 rfl ?_
        refine bw_lald hx hb hK hI 94 (by decide) rfl dL_law_347 ?_
        refine lv_iload hx hb dL_law_348 (lv_at hl 0 rfl) ?_
        refine lv_i2l hx hb dL_law_350 rfl ?_
        refine W.lcmp hx hb dL_law_351 ?_
        refine lv_if_eq (tgt := 357) hx hb dL_law_352 (by decide) (fun c_352 => ?_) (fun c_352 => ?_)
        · rw [if_pos c_352] at h
          refine W.widen (k := 601024 - 4 * n) (n := 7293034 - 24 * n) (by omega) (by omega) ?_
          exact jL_law_357_w l hfl G cy g b a o bs sl_ xs S hr hlocks hK hZ hX hbl hbA hA9 n h9 d_306 t sl_306 hn_306 hs_306 cs ln rp rn rt z_324 rows_324 asd sm_324 buf bm th_324 od om ow ca bo la pl to rd hh ou_306 x4 (lL_law_23 sl_ xs n) ih _ _ _ h hI (lv_sub hl [2,3,4,5,6] rfl)
        rw [if_neg c_352] at h
        refine lv_iconst (v := 0) hx hb dL_law_355 rfl ?_
        exact bw_none h
      rw [if_neg c_335] at h
      refine lv_iconst (v := 0) hx hb dL_law_338 rfl ?_
      exact bw_none h
    rw [if_neg c_39_2] at h
    by_cases c_39_3 : (v35 &&& 31) = 3
    · rw [if_pos c_39_3] at h
      refine lv_tableIn (tgt := 360) hx hb dL_law_39 (by rw [c_39_3]; decide) (by rw [c_39_3]; decide) (by rw [c_39_3]; rfl) (by decide) ?_
      refine lv_aload_n hx hb dL_law_360 rfl (lv_at hl 1 rfl) ?_
      refine lv_aload_n hx hb dL_law_361 rfl (lv_at hl 0 rfl) ?_
      refine lv_iload hx hb dL_law_362 (lv_at hl 4 rfl) ?_
      refine lv_iconst (v := 1) hx hb dL_law_364 rfl ?_
      refine lv_iadd hx hb dL_law_365 ?_
      obtain ⟨v366, hv, h⟩ := bw_b1_e h
      refine bw_scr hx hb hX hbl hbA hI hv dL_law_366 ?_
      refine lv_aload_n hx hb dL_law_367 rfl (lv_at hl 0 rfl) ?_
      refine lv_iload hx hb dL_law_368 (lv_at hl 4 rfl) ?_
      refine lv_iconst (v := 2) hx hb dL_law_370 rfl ?_
      refine lv_iadd hx hb dL_law_371 ?_
      obtain ⟨v372, hv, h⟩ := bw_b1_e h
      refine bw_scr hx hb hX hbl hbA hI hv dL_law_372 ?_
      refine lv_aload_n hx hb dL_law_373 rfl (lv_at hl 3 rfl) ?_
      obtain ⟨r374, d_374, sl_374, hn_374, hs_374, ou_374, hc, h⟩ := bw_b6_e h
      refine bw_callH S hK hZ hI (mL_set l hfl G cy g b o d t sl hn hs cs ln rp rn rt v366 v372 ou r374 d_374 sl_374 hn_374 hs_374 ou_374 hc) Y_L_set l_L_101 ⟨(Nat.le_of_ble_eq_true rfl), (Nat.le_of_ble_eq_true rfl)⟩ (ws' := (bw_lW cy b a o d_374 t sl_374 hn_374 hs_374 cs ln rp rn rt z rows asd sm buf bm th od om ow ca bo la pl to rd hh ou_374)) (bw_pl_h cy b a o d t sl hn hs cs ln rp rn rt z rows asd sm buf bm th od om ow ca bo la pl to rd hh ou) (bw_pl_h cy b a o d_374 t sl_374 hn_374 hs_374 cs ln rp rn rt z rows asd sm buf bm th od om ow ca bo la pl to rd hh ou_374).symm rfl rfl hl.1 (rest := []) (st1 := [.int r374]) rfl rfl (Nat.le_of_ble_eq_true rfl) dL_law_374 ⟨(by show _ ≤ 601024; omega), (by show _ ≤ 7293034; omega)⟩ (fun H locs hI => ?_)
      refine lv_istore (lv' := [(5, .int r374), (0, .ref bs), (1, .ref (b 8 5)), (2, .ref (a 0)), (3, .ref o), (4, .int x4)]) hx hb dL_law_377 hl (by decide) rfl (fun ls hl => ?_)
      refine lv_aload_n hx hb dL_law_379 rfl (lv_at hl 3 rfl) ?_
      refine lv_aload_n hx hb dL_law_380 rfl (lv_at hl 1 rfl) ?_
      refine lv_iload hx hb dL_law_381 (lv_at hl 5 rfl) ?_
      refine lv_iconst (v := 1) hx hb dL_law_383 rfl ?_
      refine lv_iadd hx hb dL_law_384 ?_
      obtain ⟨v385, hv, h⟩ := bw_b1_e h
      refine bw_scr hx hb hX hbl hbA hI hv dL_law_385 ?_
      refine lv_aload_n hx hb dL_law_386 rfl (lv_at hl 1 rfl) ?_
      refine lv_iload hx hb dL_law_387 (lv_at hl 5 rfl) ?_
      refine lv_iconst (v := 2) hx hb dL_law_389 rfl ?_
      refine lv_iadd hx hb dL_law_390 ?_
      obtain ⟨v391, hv, h⟩ := bw_b1_e h
      refine bw_scr hx hb hX hbl hbA hI hv dL_law_391 ?_
      obtain ⟨r392, z_392, rows_392, sm_392, th_392, hc, h⟩ := bw_b5_e h
      refine bw_callV S hK hZ hI (mX6_set l G cy g a z rows asd sm buf bm th od om ow ca bo la pl to rd hh v385 v391 r392 z_392 rows_392 sm_392 th_392 hc) Y_X6_set V_X6_set l_L_103 ⟨(Nat.le_of_ble_eq_true rfl), (Nat.le_of_ble_eq_true rfl)⟩ (q0 := 0) rfl rfl rfl (ws' := (bw_lW cy b a o d_374 t sl_374 hn_374 hs_374 cs ln rp rn rt z_392 rows_392 asd sm_392 buf bm th_392 od om ow ca bo la pl to rd hh ou_374)) (bw_pl_m cy b a o d_374 t sl_374 hn_374 hs_374 cs ln rp rn rt z rows asd sm buf bm th od om ow ca bo la pl to rd hh ou_374) (bw_pl_m cy b a o d_374 t sl_374 hn_374 hs_374 cs ln rp rn rt z_392 rows_392 asd sm_392 buf bm th_392 od om ow ca bo la pl to rd hh ou_374).symm rfl rfl hl.1 (rest := []) (st1 := [.int r392]) rfl rfl (Nat.le_of_ble_eq_true rfl) dL_law_392 ⟨(by show _ ≤ 601024; omega), (by show _ ≤ 7293034; omega)⟩ (fun H locs hI => ?_)
      refine lv_istore (lv' := [(6, .int r392), (5, .int r374), (0, .ref bs), (1, .ref (b 8 5)), (2, .ref (a 0)), (3, .ref o), (4, .int x4)]) hx hb dL_law_395 hl (by decide) rfl (fun ls hl => ?_)
      refine lv_aload_n hx hb dL_law_397 rfl (lv_at hl 4 rfl) ?_
      obtain ⟨r398, hc, h⟩ := bw_b1_e h
      refine bw_callV S hK hZ hI (mX6_thrown l G cy g a z_392 rows_392 asd sm_392 buf bm th_392 od om ow ca bo la pl to rd hh r398 hc) Y_X6_thrown V_X6_thrown l_L_92 ⟨(Nat.le_of_ble_eq_true rfl), (Nat.le_of_ble_eq_true rfl)⟩ (q0 := 0) rfl rfl rfl (ws' := (bw_lW cy b a o d_374 t sl_374 hn_374 hs_374 cs ln rp rn rt z_392 rows_392 asd sm_392 buf bm th_392 od om ow ca bo la pl to rd hh ou_374)) (bw_pl_m cy b a o d_374 t sl_374 hn_374 hs_374 cs ln rp rn rt z_392 rows_392 asd sm_392 buf bm th_392 od om ow ca bo la pl to rd hh ou_374) (bw_pl_m cy b a o d_374 t sl_374 hn_374 hs_374 cs ln rp rn rt z_392 rows_392 asd sm_392 buf bm th_392 od om ow ca bo la pl to rd hh ou_374).symm rfl rfl hl.1 (rest := []) (st1 := [.int r398]) rfl rfl (Nat.le_of_ble_eq_true rfl) dL_law_398 ⟨(by show _ ≤ 601024; omega), (by show _ ≤ 7293034; omega)⟩ (fun H locs hI => ?_)
      refine lv_iload hx hb dL_law_401 (lv_at hl 1 rfl) ?_
      refine lv_icmp_eq (tgt := 408) hx hb dL_law_403 (by decide) (fun c_403 => ?_) (fun c_403 => ?_)
      · rw [if_pos c_403] at h
        refine lv_iload hx hb dL_law_408 (lv_at hl 1 rfl) ?_
        refine lv_if_ne (tgt := 425) hx hb dL_law_410 (by decide) (fun c_410 => ?_) (fun c_410 => ?_)
        · rw [if_neg c_410] at h
          refine W.widen (k := 601024 - 4 * n) (n := 7293034 - 24 * n) (by omega) (by omega) ?_
          exact jL_law_425_w l hfl G cy g b a o bs sl_ xs S hr hlocks hK hZ hX hbl hbA hA9 n h9 d_374 t sl_374 hn_374 hs_374 cs ln rp rn rt z_392 rows_392 asd sm_392 buf bm th_392 od om ow ca bo la pl to rd hh ou_374 x4 (lL_law_23 sl_ xs n) ih _ _ _ h hI (lv_sub hl [2,3,4,5,6] rfl)
        rw [if_pos c_410] at h
        refine lv_aload_n hx hb dL_law_413 rfl (lv_at hl 5 rfl) ?_
        refine lv_iconst (v := 0) hx hb dL_law_414 rfl ?_
        refine bw_lald hx hb hK hI 94 (by decide) rfl dL_law_415 ?_
        refine lv_iload hx hb dL_law_416 (lv_at hl 0 rfl) ?_
        refine lv_i2l hx hb dL_law_418 rfl ?_
        refine W.lcmp hx hb dL_law_419 ?_
        refine lv_if_eq (tgt := 425) hx hb dL_law_420 (by decide) (fun c_420 => ?_) (fun c_420 => ?_)
        · rw [if_pos c_420] at h
          refine W.widen (k := 601024 - 4 * n) (n := 7293034 - 24 * n) (by omega) (by omega) ?_
          exact jL_law_425_w l hfl G cy g b a o bs sl_ xs S hr hlocks hK hZ hX hbl hbA hA9 n h9 d_374 t sl_374 hn_374 hs_374 cs ln rp rn rt z_392 rows_392 asd sm_392 buf bm th_392 od om ow ca bo la pl to rd hh ou_374 x4 (lL_law_23 sl_ xs n) ih _ _ _ h hI (lv_sub hl [2,3,4,5,6] rfl)
        rw [if_neg c_420] at h
        refine lv_iconst (v := 0) hx hb dL_law_423 rfl ?_
        exact bw_none h
      rw [if_neg c_403] at h
      refine lv_iconst (v := 0) hx hb dL_law_406 rfl ?_
      exact bw_none h
    rw [if_neg c_39_3] at h
    by_cases c_39_4 : (v35 &&& 31) = 4
    · rw [if_pos c_39_4] at h
      refine lv_tableIn (tgt := 428) hx hb dL_law_39 (by rw [c_39_4]; decide) (by rw [c_39_4]; decide) (by rw [c_39_4]; rfl) (by decide) ?_
      refine lv_aload_n hx hb dL_law_428 rfl (lv_at hl 1 rfl) ?_
      refine lv_aload_n hx hb dL_law_429 rfl (lv_at hl 0 rfl) ?_
      refine lv_iload hx hb dL_law_430 (lv_at hl 4 rfl) ?_
      refine lv_iconst (v := 1) hx hb dL_law_432 rfl ?_
      refine lv_iadd hx hb dL_law_433 ?_
      obtain ⟨v434, hv, h⟩ := bw_b1_e h
      refine bw_scr hx hb hX hbl hbA hI hv dL_law_434 ?_
      refine lv_aload_n hx hb dL_law_435 rfl (lv_at hl 0 rfl) ?_
      refine lv_iload hx hb dL_law_436 (lv_at hl 4 rfl) ?_
      refine lv_iconst (v := 2) hx hb dL_law_438 rfl ?_
      refine lv_iadd hx hb dL_law_439 ?_
      obtain ⟨v440, hv, h⟩ := bw_b1_e h
      refine bw_scr hx hb hX hbl hbA hI hv dL_law_440 ?_
      refine lv_aload_n hx hb dL_law_441 rfl (lv_at hl 3 rfl) ?_
      obtain ⟨r442, d_442, sl_442, hn_442, hs_442, ou_442, hc, h⟩ := bw_b6_e h
      refine bw_callH S hK hZ hI (mL_done l hfl G cy g b o d t sl hn hs cs ln rp rn rt v434 v440 ou r442 d_442 sl_442 hn_442 hs_442 ou_442 hc) Y_L_done l_L_104 ⟨(Nat.le_of_ble_eq_true rfl), (Nat.le_of_ble_eq_true rfl)⟩ (ws' := (bw_lW cy b a o d_442 t sl_442 hn_442 hs_442 cs ln rp rn rt z rows asd sm buf bm th od om ow ca bo la pl to rd hh ou_442)) (bw_pl_h cy b a o d t sl hn hs cs ln rp rn rt z rows asd sm buf bm th od om ow ca bo la pl to rd hh ou) (bw_pl_h cy b a o d_442 t sl_442 hn_442 hs_442 cs ln rp rn rt z rows asd sm buf bm th od om ow ca bo la pl to rd hh ou_442).symm rfl rfl hl.1 (rest := []) (st1 := [.int r442]) rfl rfl (Nat.le_of_ble_eq_true rfl) dL_law_442 ⟨(by show _ ≤ 601024; omega), (by show _ ≤ 7293034; omega)⟩ (fun H locs hI => ?_)
      refine lv_istore (lv' := [(5, .int r442), (0, .ref bs), (1, .ref (b 8 5)), (2, .ref (a 0)), (3, .ref o), (4, .int x4)]) hx hb dL_law_445 hl (by decide) rfl (fun ls hl => ?_)
      refine lv_aload_n hx hb dL_law_447 rfl (lv_at hl 3 rfl) ?_
      refine lv_aload_n hx hb dL_law_448 rfl (lv_at hl 1 rfl) ?_
      refine lv_iload hx hb dL_law_449 (lv_at hl 5 rfl) ?_
      refine lv_iconst (v := 1) hx hb dL_law_451 rfl ?_
      refine lv_iadd hx hb dL_law_452 ?_
      obtain ⟨v453, hv, h⟩ := bw_b1_e h
      refine bw_scr hx hb hX hbl hbA hI hv dL_law_453 ?_
      refine lv_aload_n hx hb dL_law_454 rfl (lv_at hl 1 rfl) ?_
      refine lv_iload hx hb dL_law_455 (lv_at hl 5 rfl) ?_
      refine lv_iconst (v := 2) hx hb dL_law_457 rfl ?_
      refine lv_iadd hx hb dL_law_458 ?_
      obtain ⟨v459, hv, h⟩ := bw_b1_e h
      refine bw_scr hx hb hX hbl hbA hI hv dL_law_459 ?_
      obtain ⟨r460, z_460, rows_460, sm_460, th_460, od_460, om_460, ow_460, ca_460, bo_460, la_460, hc, h⟩ := bw_b11_e h
      refine bw_callV S hK hZ hI (mX6_done l G cy g a z rows asd sm buf bm th od om ow ca bo la pl to rd hh v453 v459 r460 z_460 rows_460 sm_460 th_460 od_460 om_460 ow_460 ca_460 bo_460 la_460 hc) Y_X6_done V_X6_done l_L_106 ⟨(Nat.le_of_ble_eq_true rfl), (Nat.le_of_ble_eq_true rfl)⟩ (q0 := 0) rfl rfl rfl (ws' := (bw_lW cy b a o d_442 t sl_442 hn_442 hs_442 cs ln rp rn rt z_460 rows_460 asd sm_460 buf bm th_460 od_460 om_460 ow_460 ca_460 bo_460 la_460 pl to rd hh ou_442)) (bw_pl_m cy b a o d_442 t sl_442 hn_442 hs_442 cs ln rp rn rt z rows asd sm buf bm th od om ow ca bo la pl to rd hh ou_442) (bw_pl_m cy b a o d_442 t sl_442 hn_442 hs_442 cs ln rp rn rt z_460 rows_460 asd sm_460 buf bm th_460 od_460 om_460 ow_460 ca_460 bo_460 la_460 pl to rd hh ou_442).symm rfl rfl hl.1 (rest := []) (st1 := [.int r460]) rfl rfl (Nat.le_of_ble_eq_true rfl) dL_law_460 ⟨(by show _ ≤ 601024; omega), (by show _ ≤ 7293034; omega)⟩ (fun H locs hI => ?_)
      refine lv_istore (lv' := [(6, .int r460), (5, .int r442), (0, .ref bs), (1, .ref (b 8 5)), (2, .ref (a 0)), (3, .ref o), (4, .int x4)]) hx hb dL_law_463 hl (by decide) rfl (fun ls hl => ?_)
      refine lv_aload_n hx hb dL_law_465 rfl (lv_at hl 4 rfl) ?_
      obtain ⟨r466, hc, h⟩ := bw_b1_e h
      refine bw_callV S hK hZ hI (mX6_thrown l G cy g a z_460 rows_460 asd sm_460 buf bm th_460 od_460 om_460 ow_460 ca_460 bo_460 la_460 pl to rd hh r466 hc) Y_X6_thrown V_X6_thrown l_L_92 ⟨(Nat.le_of_ble_eq_true rfl), (Nat.le_of_ble_eq_true rfl)⟩ (q0 := 0) rfl rfl rfl (ws' := (bw_lW cy b a o d_442 t sl_442 hn_442 hs_442 cs ln rp rn rt z_460 rows_460 asd sm_460 buf bm th_460 od_460 om_460 ow_460 ca_460 bo_460 la_460 pl to rd hh ou_442)) (bw_pl_m cy b a o d_442 t sl_442 hn_442 hs_442 cs ln rp rn rt z_460 rows_460 asd sm_460 buf bm th_460 od_460 om_460 ow_460 ca_460 bo_460 la_460 pl to rd hh ou_442) (bw_pl_m cy b a o d_442 t sl_442 hn_442 hs_442 cs ln rp rn rt z_460 rows_460 asd sm_460 buf bm th_460 od_460 om_460 ow_460 ca_460 bo_460 la_460 pl to rd hh ou_442).symm rfl rfl hl.1 (rest := []) (st1 := [.int r466]) rfl rfl (Nat.le_of_ble_eq_true rfl) dL_law_466 ⟨(by show _ ≤ 601024; omega), (by show _ ≤ 7293034; omega)⟩ (fun H locs hI => ?_)
      refine lv_iload hx hb dL_law_469 (lv_at hl 1 rfl) ?_
      refine lv_icmp_eq (tgt := 476) hx hb dL_law_471 (by decide) (fun c_471 => ?_) (fun c_471 => ?_)
      · rw [if_pos c_471] at h
        refine lv_iload hx hb dL_law_476 (lv_at hl 1 rfl) ?_
        refine lv_if_ne (tgt := 493) hx hb dL_law_478 (by decide) (fun c_478 => ?_) (fun c_478 => ?_)
        · rw [if_neg c_478] at h
          refine W.widen (k := 601024 - 4 * n) (n := 7293034 - 24 * n) (by omega) (by omega) ?_
          exact jL_law_493_w l hfl G cy g b a o bs sl_ xs S hr hlocks hK hZ hX hbl hbA hA9 n h9 d_442 t sl_442 hn_442 hs_442 cs ln rp rn rt z_460 rows_460 asd sm_460 buf bm th_460 od_460 om_460 ow_460 ca_460 bo_460 la_460 pl to rd hh ou_442 x4 (lL_law_23 sl_ xs n) ih _ _ _ h hI (lv_sub hl [2,3,4,5,6] rfl)
        rw [if_pos c_478] at h
        refine lv_aload_n hx hb dL_law_481 rfl (lv_at hl 5 rfl) ?_
        refine lv_iconst (v := 0) hx hb dL_law_482 rfl ?_
        refine bw_lald hx hb hK hI 94 (by decide) rfl dL_law_483 ?_
        refine lv_iload hx hb dL_law_484 (lv_at hl 0 rfl) ?_
        refine lv_i2l hx hb dL_law_486 rfl ?_
        refine W.lcmp hx hb dL_law_487 ?_
        refine lv_if_eq (tgt := 493) hx hb dL_law_488 (by decide) (fun c_488 => ?_) (fun c_488 => ?_)
        · rw [if_pos c_488] at h
          refine W.widen (k := 601024 - 4 * n) (n := 7293034 - 24 * n) (by omega) (by omega) ?_
          exact jL_law_493_w l hfl G cy g b a o bs sl_ xs S hr hlocks hK hZ hX hbl hbA hA9 n h9 d_442 t sl_442 hn_442 hs_442 cs ln rp rn rt z_460 rows_460 asd sm_460 buf bm th_460 od_460 om_460 ow_460 ca_460 bo_460 la_460 pl to rd hh ou_442 x4 (lL_law_23 sl_ xs n) ih _ _ _ h hI (lv_sub hl [2,3,4,5,6] rfl)
        rw [if_neg c_488] at h
        refine lv_iconst (v := 0) hx hb dL_law_491 rfl ?_
        exact bw_none h
      rw [if_neg c_471] at h
      refine lv_iconst (v := 0) hx hb dL_law_474 rfl ?_
      exact bw_none h
    rw [if_neg c_39_4] at h
    by_cases c_39_5 : (v35 &&& 31) = 5
    · rw [if_pos c_39_5] at h
      refine lv_tableIn (tgt := 496) hx hb dL_law_39 (by rw [c_39_5]; decide) (by rw [c_39_5]; decide) (by rw [c_39_5]; rfl) (by decide) ?_
      refine lv_aload_n hx hb dL_law_496 rfl (lv_at hl 1 rfl) ?_
      refine lv_aload_n hx hb dL_law_497 rfl (lv_at hl 0 rfl) ?_
      refine lv_iload hx hb dL_law_498 (lv_at hl 4 rfl) ?_
      refine lv_iconst (v := 1) hx hb dL_law_500 rfl ?_
      refine lv_iadd hx hb dL_law_501 ?_
      obtain ⟨v502, hv, h⟩ := bw_b1_e h
      refine bw_scr hx hb hX hbl hbA hI hv dL_law_502 ?_
      refine lv_aload_n hx hb dL_law_503 rfl (lv_at hl 0 rfl) ?_
      refine lv_iload hx hb dL_law_504 (lv_at hl 4 rfl) ?_
      refine lv_iconst (v := 2) hx hb dL_law_506 rfl ?_
      refine lv_iadd hx hb dL_law_507 ?_
      obtain ⟨v508, hv, h⟩ := bw_b1_e h
      refine bw_scr hx hb hX hbl hbA hI hv dL_law_508 ?_
      refine lv_aload_n hx hb dL_law_509 rfl (lv_at hl 0 rfl) ?_
      refine lv_iload hx hb dL_law_510 (lv_at hl 4 rfl) ?_
      refine lv_iconst (v := 3) hx hb dL_law_512 rfl ?_
      refine lv_iadd hx hb dL_law_513 ?_
      obtain ⟨v514, hv, h⟩ := bw_b1_e h
      refine bw_scr hx hb hX hbl hbA hI hv dL_law_514 ?_
      refine lv_aload_n hx hb dL_law_515 rfl (lv_at hl 3 rfl) ?_
      obtain ⟨r516, d_516, sl_516, hn_516, hs_516, ou_516, hc, h⟩ := bw_b6_e h
      refine bw_callH S hK hZ hI (mL_lend l hfl G cy g b o d t sl hn hs cs ln rp rn rt v502 v508 v514 ou r516 d_516 sl_516 hn_516 hs_516 ou_516 hc) Y_L_lend l_L_107 ⟨(Nat.le_of_ble_eq_true rfl), (Nat.le_of_ble_eq_true rfl)⟩ (ws' := (bw_lW cy b a o d_516 t sl_516 hn_516 hs_516 cs ln rp rn rt z rows asd sm buf bm th od om ow ca bo la pl to rd hh ou_516)) (bw_pl_h cy b a o d t sl hn hs cs ln rp rn rt z rows asd sm buf bm th od om ow ca bo la pl to rd hh ou) (bw_pl_h cy b a o d_516 t sl_516 hn_516 hs_516 cs ln rp rn rt z rows asd sm buf bm th od om ow ca bo la pl to rd hh ou_516).symm rfl rfl hl.1 (rest := []) (st1 := [.int r516]) rfl rfl (Nat.le_of_ble_eq_true rfl) dL_law_516 ⟨(by show _ ≤ 601024; omega), (by show _ ≤ 7293034; omega)⟩ (fun H locs hI => ?_)
      refine lv_istore (lv' := [(5, .int r516), (0, .ref bs), (1, .ref (b 8 5)), (2, .ref (a 0)), (3, .ref o), (4, .int x4)]) hx hb dL_law_519 hl (by decide) rfl (fun ls hl => ?_)
      refine lv_aload_n hx hb dL_law_521 rfl (lv_at hl 3 rfl) ?_
      refine lv_aload_n hx hb dL_law_522 rfl (lv_at hl 1 rfl) ?_
      refine lv_iload hx hb dL_law_523 (lv_at hl 5 rfl) ?_
      refine lv_iconst (v := 1) hx hb dL_law_525 rfl ?_
      refine lv_iadd hx hb dL_law_526 ?_
      obtain ⟨v527, hv, h⟩ := bw_b1_e h
      refine bw_scr hx hb hX hbl hbA hI hv dL_law_527 ?_
      refine lv_aload_n hx hb dL_law_528 rfl (lv_at hl 1 rfl) ?_
      refine lv_iload hx hb dL_law_529 (lv_at hl 5 rfl) ?_
      refine lv_iconst (v := 2) hx hb dL_law_531 rfl ?_
      refine lv_iadd hx hb dL_law_532 ?_
      obtain ⟨v533, hv, h⟩ := bw_b1_e h
      refine bw_scr hx hb hX hbl hbA hI hv dL_law_533 ?_
      refine lv_aload_n hx hb dL_law_534 rfl (lv_at hl 1 rfl) ?_
      refine lv_iload hx hb dL_law_535 (lv_at hl 5 rfl) ?_
      refine lv_iconst (v := 3) hx hb dL_law_537 rfl ?_
      refine lv_iadd hx hb dL_law_538 ?_
      obtain ⟨v539, hv, h⟩ := bw_b1_e h
      refine bw_scr hx hb hX hbl hbA hI hv dL_law_539 ?_
      obtain ⟨r540, z_540, rows_540, sm_540, th_540, hc, h⟩ := bw_b5_e h
      refine bw_callV S hK hZ hI (mX6_lend l G cy g a z rows asd sm buf bm th od om ow ca bo la pl to rd hh v527 v533 v539 r540 z_540 rows_540 sm_540 th_540 hc) Y_X6_lend V_X6_lend l_L_110 ⟨(Nat.le_of_ble_eq_true rfl), (Nat.le_of_ble_eq_true rfl)⟩ (q0 := 0) rfl rfl rfl (ws' := (bw_lW cy b a o d_516 t sl_516 hn_516 hs_516 cs ln rp rn rt z_540 rows_540 asd sm_540 buf bm th_540 od om ow ca bo la pl to rd hh ou_516)) (bw_pl_m cy b a o d_516 t sl_516 hn_516 hs_516 cs ln rp rn rt z rows asd sm buf bm th od om ow ca bo la pl to rd hh ou_516) (bw_pl_m cy b a o d_516 t sl_516 hn_516 hs_516 cs ln rp rn rt z_540 rows_540 asd sm_540 buf bm th_540 od om ow ca bo la pl to rd hh ou_516).symm rfl rfl hl.1 (rest := []) (st1 := [.int r540]) rfl rfl (Nat.le_of_ble_eq_true rfl) dL_law_540 ⟨(by show _ ≤ 601024; omega), (by show _ ≤ 7293034; omega)⟩ (fun H locs hI => ?_)
      refine lv_istore (lv' := [(6, .int r540), (5, .int r516), (0, .ref bs), (1, .ref (b 8 5)), (2, .ref (a 0)), (3, .ref o), (4, .int x4)]) hx hb dL_law_543 hl (by decide) rfl (fun ls hl => ?_)
      refine lv_aload_n hx hb dL_law_545 rfl (lv_at hl 4 rfl) ?_
      obtain ⟨r546, hc, h⟩ := bw_b1_e h
      refine bw_callV S hK hZ hI (mX6_thrown l G cy g a z_540 rows_540 asd sm_540 buf bm th_540 od om ow ca bo la pl to rd hh r546 hc) Y_X6_thrown V_X6_thrown l_L_92 ⟨(Nat.le_of_ble_eq_true rfl), (Nat.le_of_ble_eq_true rfl)⟩ (q0 := 0) rfl rfl rfl (ws' := (bw_lW cy b a o d_516 t sl_516 hn_516 hs_516 cs ln rp rn rt z_540 rows_540 asd sm_540 buf bm th_540 od om ow ca bo la pl to rd hh ou_516)) (bw_pl_m cy b a o d_516 t sl_516 hn_516 hs_516 cs ln rp rn rt z_540 rows_540 asd sm_540 buf bm th_540 od om ow ca bo la pl to rd hh ou_516) (bw_pl_m cy b a o d_516 t sl_516 hn_516 hs_516 cs ln rp rn rt z_540 rows_540 asd sm_540 buf bm th_540 od om ow ca bo la pl to rd hh ou_516).symm rfl rfl hl.1 (rest := []) (st1 := [.int r546]) rfl rfl (Nat.le_of_ble_eq_true rfl) dL_law_546 ⟨(by show _ ≤ 601024; omega), (by show _ ≤ 7293034; omega)⟩ (fun H locs hI => ?_)
      refine lv_iload hx hb dL_law_549 (lv_at hl 1 rfl) ?_
      refine lv_icmp_eq (tgt := 556) hx hb dL_law_551 (by decide) (fun c_551 => ?_) (fun c_551 => ?_)
      · rw [if_pos c_551] at h
        refine lv_iload hx hb dL_law_556 (lv_at hl 1 rfl) ?_
        refine lv_if_ne (tgt := 573) hx hb dL_law_558 (by decide) (fun c_558 => ?_) (fun c_558 => ?_)
        · rw [if_neg c_558] at h
          refine W.widen (k := 601024 - 4 * n) (n := 7293034 - 24 * n) (by omega) (by omega) ?_
          exact jL_law_573_w l hfl G cy g b a o bs sl_ xs S hr hlocks hK hZ hX hbl hbA hA9 n h9 d_516 t sl_516 hn_516 hs_516 cs ln rp rn rt z_540 rows_540 asd sm_540 buf bm th_540 od om ow ca bo la pl to rd hh ou_516 x4 (lL_law_23 sl_ xs n) ih _ _ _ h hI (lv_sub hl [2,3,4,5,6] rfl)
        rw [if_pos c_558] at h
        refine lv_aload_n hx hb dL_law_561 rfl (lv_at hl 5 rfl) ?_
        refine lv_iconst (v := 0) hx hb dL_law_562 rfl ?_
        refine bw_lald hx hb hK hI 94 (by decide) rfl dL_law_563 ?_
        refine lv_iload hx hb dL_law_564 (lv_at hl 0 rfl) ?_
        refine lv_i2l hx hb dL_law_566 rfl ?_
        refine W.lcmp hx hb dL_law_567 ?_
        refine lv_if_eq (tgt := 573) hx hb dL_law_568 (by decide) (fun c_568 => ?_) (fun c_568 => ?_)
        · rw [if_pos c_568] at h
          refine W.widen (k := 601024 - 4 * n) (n := 7293034 - 24 * n) (by omega) (by omega) ?_
          exact jL_law_573_w l hfl G cy g b a o bs sl_ xs S hr hlocks hK hZ hX hbl hbA hA9 n h9 d_516 t sl_516 hn_516 hs_516 cs ln rp rn rt z_540 rows_540 asd sm_540 buf bm th_540 od om ow ca bo la pl to rd hh ou_516 x4 (lL_law_23 sl_ xs n) ih _ _ _ h hI (lv_sub hl [2,3,4,5,6] rfl)
        rw [if_neg c_568] at h
        refine lv_iconst (v := 0) hx hb dL_law_571 rfl ?_
        exact bw_none h
      rw [if_neg c_551] at h
      refine lv_iconst (v := 0) hx hb dL_law_554 rfl ?_
      exact bw_none h
    rw [if_neg c_39_5] at h
    by_cases c_39_6 : (v35 &&& 31) = 6
    · rw [if_pos c_39_6] at h
      refine lv_tableIn (tgt := 576) hx hb dL_law_39 (by rw [c_39_6]; decide) (by rw [c_39_6]; decide) (by rw [c_39_6]; rfl) (by decide) ?_
      refine lv_aload_n hx hb dL_law_576 rfl (lv_at hl 1 rfl) ?_
      refine lv_aload_n hx hb dL_law_577 rfl (lv_at hl 0 rfl) ?_
      refine lv_iload hx hb dL_law_578 (lv_at hl 4 rfl) ?_
      refine lv_iconst (v := 1) hx hb dL_law_580 rfl ?_
      refine lv_iadd hx hb dL_law_581 ?_
      obtain ⟨v582, hv, h⟩ := bw_b1_e h
      refine bw_scr hx hb hX hbl hbA hI hv dL_law_582 ?_
      refine lv_aload_n hx hb dL_law_583 rfl (lv_at hl 0 rfl) ?_
      refine lv_iload hx hb dL_law_584 (lv_at hl 4 rfl) ?_
      refine lv_iconst (v := 2) hx hb dL_law_586 rfl ?_
      refine lv_iadd hx hb dL_law_587 ?_
      obtain ⟨v588, hv, h⟩ := bw_b1_e h
      refine bw_scr hx hb hX hbl hbA hI hv dL_law_588 ?_
      refine lv_aload_n hx hb dL_law_589 rfl (lv_at hl 0 rfl) ?_
      refine lv_iload hx hb dL_law_590 (lv_at hl 4 rfl) ?_
      refine lv_iconst (v := 3) hx hb dL_law_592 rfl ?_
      refine lv_iadd hx hb dL_law_593 ?_
      obtain ⟨v594, hv, h⟩ := bw_b1_e h
      refine bw_scr hx hb hX hbl hbA hI hv dL_law_594 ?_
      refine lv_aload_n hx hb dL_law_595 rfl (lv_at hl 3 rfl) ?_
      obtain ⟨r596, d_596, sl_596, hn_596, hs_596, ou_596, hc, h⟩ := bw_b6_e h
      refine bw_callH S hK hZ hI (mL_payBack l hfl G cy g b o d t sl hn hs cs ln rp rn rt v582 v588 v594 ou r596 d_596 sl_596 hn_596 hs_596 ou_596 hc) Y_L_payBack l_L_111 ⟨(Nat.le_of_ble_eq_true rfl), (Nat.le_of_ble_eq_true rfl)⟩ (ws' := (bw_lW cy b a o d_596 t sl_596 hn_596 hs_596 cs ln rp rn rt z rows asd sm buf bm th od om ow ca bo la pl to rd hh ou_596)) (bw_pl_h cy b a o d t sl hn hs cs ln rp rn rt z rows asd sm buf bm th od om ow ca bo la pl to rd hh ou) (bw_pl_h cy b a o d_596 t sl_596 hn_596 hs_596 cs ln rp rn rt z rows asd sm buf bm th od om ow ca bo la pl to rd hh ou_596).symm rfl rfl hl.1 (rest := []) (st1 := [.int r596]) rfl rfl (Nat.le_of_ble_eq_true rfl) dL_law_596 ⟨(by show _ ≤ 601024; omega), (by show _ ≤ 7293034; omega)⟩ (fun H locs hI => ?_)
      refine lv_istore (lv' := [(5, .int r596), (0, .ref bs), (1, .ref (b 8 5)), (2, .ref (a 0)), (3, .ref o), (4, .int x4)]) hx hb dL_law_599 hl (by decide) rfl (fun ls hl => ?_)
      refine lv_aload_n hx hb dL_law_601 rfl (lv_at hl 3 rfl) ?_
      refine lv_aload_n hx hb dL_law_602 rfl (lv_at hl 1 rfl) ?_
      refine lv_iload hx hb dL_law_603 (lv_at hl 5 rfl) ?_
      refine lv_iconst (v := 1) hx hb dL_law_605 rfl ?_
      refine lv_iadd hx hb dL_law_606 ?_
      obtain ⟨v607, hv, h⟩ := bw_b1_e h
      refine bw_scr hx hb hX hbl hbA hI hv dL_law_607 ?_
      refine lv_aload_n hx hb dL_law_608 rfl (lv_at hl 1 rfl) ?_
      refine lv_iload hx hb dL_law_609 (lv_at hl 5 rfl) ?_
      refine lv_iconst (v := 2) hx hb dL_law_611 rfl ?_
      refine lv_iadd hx hb dL_law_612 ?_
      obtain ⟨v613, hv, h⟩ := bw_b1_e h
      refine bw_scr hx hb hX hbl hbA hI hv dL_law_613 ?_
      refine lv_aload_n hx hb dL_law_614 rfl (lv_at hl 1 rfl) ?_
      refine lv_iload hx hb dL_law_615 (lv_at hl 5 rfl) ?_
      refine lv_iconst (v := 3) hx hb dL_law_617 rfl ?_
      refine lv_iadd hx hb dL_law_618 ?_
      obtain ⟨v619, hv, h⟩ := bw_b1_e h
      refine bw_scr hx hb hX hbl hbA hI hv dL_law_619 ?_
      obtain ⟨r620, z_620, rows_620, sm_620, th_620, hc, h⟩ := bw_b5_e h
      refine bw_callV S hK hZ hI (mX6_payBack l G cy g a z rows asd sm buf bm th od om ow ca bo la pl to rd hh v607 v613 v619 r620 z_620 rows_620 sm_620 th_620 hc) Y_X6_payBack V_X6_payBack l_L_113 ⟨(Nat.le_of_ble_eq_true rfl), (Nat.le_of_ble_eq_true rfl)⟩ (q0 := 0) rfl rfl rfl (ws' := (bw_lW cy b a o d_596 t sl_596 hn_596 hs_596 cs ln rp rn rt z_620 rows_620 asd sm_620 buf bm th_620 od om ow ca bo la pl to rd hh ou_596)) (bw_pl_m cy b a o d_596 t sl_596 hn_596 hs_596 cs ln rp rn rt z rows asd sm buf bm th od om ow ca bo la pl to rd hh ou_596) (bw_pl_m cy b a o d_596 t sl_596 hn_596 hs_596 cs ln rp rn rt z_620 rows_620 asd sm_620 buf bm th_620 od om ow ca bo la pl to rd hh ou_596).symm rfl rfl hl.1 (rest := []) (st1 := [.int r620]) rfl rfl (Nat.le_of_ble_eq_true rfl) dL_law_620 ⟨(by show _ ≤ 601024; omega), (by show _ ≤ 7293034; omega)⟩ (fun H locs hI => ?_)
      refine lv_istore (lv' := [(6, .int r620), (5, .int r596), (0, .ref bs), (1, .ref (b 8 5)), (2, .ref (a 0)), (3, .ref o), (4, .int x4)]) hx hb dL_law_623 hl (by decide) rfl (fun ls hl => ?_)
      refine lv_aload_n hx hb dL_law_625 rfl (lv_at hl 4 rfl) ?_
      obtain ⟨r626, hc, h⟩ := bw_b1_e h
      refine bw_callV S hK hZ hI (mX6_thrown l G cy g a z_620 rows_620 asd sm_620 buf bm th_620 od om ow ca bo la pl to rd hh r626 hc) Y_X6_thrown V_X6_thrown l_L_92 ⟨(Nat.le_of_ble_eq_true rfl), (Nat.le_of_ble_eq_true rfl)⟩ (q0 := 0) rfl rfl rfl (ws' := (bw_lW cy b a o d_596 t sl_596 hn_596 hs_596 cs ln rp rn rt z_620 rows_620 asd sm_620 buf bm th_620 od om ow ca bo la pl to rd hh ou_596)) (bw_pl_m cy b a o d_596 t sl_596 hn_596 hs_596 cs ln rp rn rt z_620 rows_620 asd sm_620 buf bm th_620 od om ow ca bo la pl to rd hh ou_596) (bw_pl_m cy b a o d_596 t sl_596 hn_596 hs_596 cs ln rp rn rt z_620 rows_620 asd sm_620 buf bm th_620 od om ow ca bo la pl to rd hh ou_596).symm rfl rfl hl.1 (rest := []) (st1 := [.int r626]) rfl rfl (Nat.le_of_ble_eq_true rfl) dL_law_626 ⟨(by show _ ≤ 601024; omega), (by show _ ≤ 7293034; omega)⟩ (fun H locs hI => ?_)
      refine lv_iload hx hb dL_law_629 (lv_at hl 1 rfl) ?_
      refine lv_icmp_eq (tgt := 636) hx hb dL_law_631 (by decide) (fun c_631 => ?_) (fun c_631 => ?_)
      · rw [if_pos c_631] at h
        refine lv_iload hx hb dL_law_636 (lv_at hl 1 rfl) ?_
        refine lv_if_ne (tgt := 653) hx hb dL_law_638 (by decide) (fun c_638 => ?_) (fun c_638 => ?_)
        · rw [if_neg c_638] at h
          refine W.widen (k := 601024 - 4 * n) (n := 7293034 - 24 * n) (by omega) (by omega) ?_
          exact jL_law_653_w l hfl G cy g b a o bs sl_ xs S hr hlocks hK hZ hX hbl hbA hA9 n h9 d_596 t sl_596 hn_596 hs_596 cs ln rp rn rt z_620 rows_620 asd sm_620 buf bm th_620 od om ow ca bo la pl to rd hh ou_596 x4 (lL_law_23 sl_ xs n) ih _ _ _ h hI (lv_sub hl [2,3,4,5,6] rfl)
        rw [if_pos c_638] at h
        refine lv_aload_n hx hb dL_law_641 rfl (lv_at hl 5 rfl) ?_
        refine lv_iconst (v := 0) hx hb dL_law_642 rfl ?_
        refine bw_lald hx hb hK hI 94 (by decide) rfl dL_law_643 ?_
        refine lv_iload hx hb dL_law_644 (lv_at hl 0 rfl) ?_
        refine lv_i2l hx hb dL_law_646 rfl ?_
        refine W.lcmp hx hb dL_law_647 ?_
        refine lv_if_eq (tgt := 653) hx hb dL_law_648 (by decide) (fun c_648 => ?_) (fun c_648 => ?_)
        · rw [if_pos c_648] at h
          refine W.widen (k := 601024 - 4 * n) (n := 7293034 - 24 * n) (by omega) (by omega) ?_
          exact jL_law_653_w l hfl G cy g b a o bs sl_ xs S hr hlocks hK hZ hX hbl hbA hA9 n h9 d_596 t sl_596 hn_596 hs_596 cs ln rp rn rt z_620 rows_620 asd sm_620 buf bm th_620 od om ow ca bo la pl to rd hh ou_596 x4 (lL_law_23 sl_ xs n) ih _ _ _ h hI (lv_sub hl [2,3,4,5,6] rfl)
        rw [if_neg c_648] at h
        refine lv_iconst (v := 0) hx hb dL_law_651 rfl ?_
        exact bw_none h
      rw [if_neg c_631] at h
      refine lv_iconst (v := 0) hx hb dL_law_634 rfl ?_
      exact bw_none h
    rw [if_neg c_39_6] at h
    by_cases c_39_7 : (v35 &&& 31) = 7
    · rw [if_pos c_39_7] at h
      refine lv_tableIn (tgt := 656) hx hb dL_law_39 (by rw [c_39_7]; decide) (by rw [c_39_7]; decide) (by rw [c_39_7]; rfl) (by decide) ?_
      refine lv_aload_n hx hb dL_law_656 rfl (lv_at hl 1 rfl) ?_
      refine lv_aload_n hx hb dL_law_657 rfl (lv_at hl 0 rfl) ?_
      refine lv_iload hx hb dL_law_658 (lv_at hl 4 rfl) ?_
      refine lv_iconst (v := 1) hx hb dL_law_660 rfl ?_
      refine lv_iadd hx hb dL_law_661 ?_
      obtain ⟨v662, hv, h⟩ := bw_b1_e h
      refine bw_scr hx hb hX hbl hbA hI hv dL_law_662 ?_
      refine lv_aload_n hx hb dL_law_663 rfl (lv_at hl 3 rfl) ?_
      obtain ⟨r664, d_664, sl_664, hn_664, hs_664, ou_664, hc, h⟩ := bw_b6_e h
      refine bw_callH S hK hZ hI (mL_close l hfl G cy g b o d t sl hn hs cs ln rp rn rt v662 ou r664 d_664 sl_664 hn_664 hs_664 ou_664 hc) Y_L_close l_L_114 ⟨(Nat.le_of_ble_eq_true rfl), (Nat.le_of_ble_eq_true rfl)⟩ (ws' := (bw_lW cy b a o d_664 t sl_664 hn_664 hs_664 cs ln rp rn rt z rows asd sm buf bm th od om ow ca bo la pl to rd hh ou_664)) (bw_pl_h cy b a o d t sl hn hs cs ln rp rn rt z rows asd sm buf bm th od om ow ca bo la pl to rd hh ou) (bw_pl_h cy b a o d_664 t sl_664 hn_664 hs_664 cs ln rp rn rt z rows asd sm buf bm th od om ow ca bo la pl to rd hh ou_664).symm rfl rfl hl.1 (rest := []) (st1 := [.int r664]) rfl rfl (Nat.le_of_ble_eq_true rfl) dL_law_664 ⟨(by show _ ≤ 601024; omega), (by show _ ≤ 7293034; omega)⟩ (fun H locs hI => ?_)
      refine lv_istore (lv' := [(5, .int r664), (0, .ref bs), (1, .ref (b 8 5)), (2, .ref (a 0)), (3, .ref o), (4, .int x4)]) hx hb dL_law_667 hl (by decide) rfl (fun ls hl => ?_)
      refine lv_aload_n hx hb dL_law_669 rfl (lv_at hl 3 rfl) ?_
      refine lv_aload_n hx hb dL_law_670 rfl (lv_at hl 1 rfl) ?_
      refine lv_iload hx hb dL_law_671 (lv_at hl 5 rfl) ?_
      refine lv_iconst (v := 1) hx hb dL_law_673 rfl ?_
      refine lv_iadd hx hb dL_law_674 ?_
      obtain ⟨v675, hv, h⟩ := bw_b1_e h
      refine bw_scr hx hb hX hbl hbA hI hv dL_law_675 ?_
      obtain ⟨r676, z_676, rows_676, sm_676, th_676, hc, h⟩ := bw_b5_e h
      refine bw_callV S hK hZ hI (mX6_close l G cy g a z rows asd sm buf bm th od om ow ca bo la pl to rd hh v675 r676 z_676 rows_676 sm_676 th_676 hc) Y_X6_close V_X6_close l_L_117 ⟨(Nat.le_of_ble_eq_true rfl), (Nat.le_of_ble_eq_true rfl)⟩ (q0 := 0) rfl rfl rfl (ws' := (bw_lW cy b a o d_664 t sl_664 hn_664 hs_664 cs ln rp rn rt z_676 rows_676 asd sm_676 buf bm th_676 od om ow ca bo la pl to rd hh ou_664)) (bw_pl_m cy b a o d_664 t sl_664 hn_664 hs_664 cs ln rp rn rt z rows asd sm buf bm th od om ow ca bo la pl to rd hh ou_664) (bw_pl_m cy b a o d_664 t sl_664 hn_664 hs_664 cs ln rp rn rt z_676 rows_676 asd sm_676 buf bm th_676 od om ow ca bo la pl to rd hh ou_664).symm rfl rfl hl.1 (rest := []) (st1 := [.int r676]) rfl rfl (Nat.le_of_ble_eq_true rfl) dL_law_676 ⟨(by show _ ≤ 601024; omega), (by show _ ≤ 7293034; omega)⟩ (fun H locs hI => ?_)
      refine lv_istore (lv' := [(6, .int r676), (5, .int r664), (0, .ref bs), (1, .ref (b 8 5)), (2, .ref (a 0)), (3, .ref o), (4, .int x4)]) hx hb dL_law_679 hl (by decide) rfl (fun ls hl => ?_)
      refine lv_aload_n hx hb dL_law_681 rfl (lv_at hl 4 rfl) ?_
      obtain ⟨r682, hc, h⟩ := bw_b1_e h
      refine bw_callV S hK hZ hI (mX6_thrown l G cy g a z_676 rows_676 asd sm_676 buf bm th_676 od om ow ca bo la pl to rd hh r682 hc) Y_X6_thrown V_X6_thrown l_L_92 ⟨(Nat.le_of_ble_eq_true rfl), (Nat.le_of_ble_eq_true rfl)⟩ (q0 := 0) rfl rfl rfl (ws' := (bw_lW cy b a o d_664 t sl_664 hn_664 hs_664 cs ln rp rn rt z_676 rows_676 asd sm_676 buf bm th_676 od om ow ca bo la pl to rd hh ou_664)) (bw_pl_m cy b a o d_664 t sl_664 hn_664 hs_664 cs ln rp rn rt z_676 rows_676 asd sm_676 buf bm th_676 od om ow ca bo la pl to rd hh ou_664) (bw_pl_m cy b a o d_664 t sl_664 hn_664 hs_664 cs ln rp rn rt z_676 rows_676 asd sm_676 buf bm th_676 od om ow ca bo la pl to rd hh ou_664).symm rfl rfl hl.1 (rest := []) (st1 := [.int r682]) rfl rfl (Nat.le_of_ble_eq_true rfl) dL_law_682 ⟨(by show _ ≤ 601024; omega), (by show _ ≤ 7293034; omega)⟩ (fun H locs hI => ?_)
      refine lv_iload hx hb dL_law_685 (lv_at hl 1 rfl) ?_
      refine lv_icmp_eq (tgt := 692) hx hb dL_law_687 (by decide) (fun c_687 => ?_) (fun c_687 => ?_)
      · rw [if_pos c_687] at h
        refine lv_iload hx hb dL_law_692 (lv_at hl 1 rfl) ?_
        refine lv_if_ne (tgt := 709) hx hb dL_law_694 (by decide) (fun c_694 => ?_) (fun c_694 => ?_)
        · rw [if_neg c_694] at h
          refine W.widen (k := 601024 - 4 * n) (n := 7293034 - 24 * n) (by omega) (by omega) ?_
          exact jL_law_709_w l hfl G cy g b a o bs sl_ xs S hr hlocks hK hZ hX hbl hbA hA9 n h9 d_664 t sl_664 hn_664 hs_664 cs ln rp rn rt z_676 rows_676 asd sm_676 buf bm th_676 od om ow ca bo la pl to rd hh ou_664 x4 (lL_law_23 sl_ xs n) ih _ _ _ h hI (lv_sub hl [2,3,4,5,6] rfl)
        rw [if_pos c_694] at h
        refine lv_aload_n hx hb dL_law_697 rfl (lv_at hl 5 rfl) ?_
        refine lv_iconst (v := 0) hx hb dL_law_698 rfl ?_
        refine bw_lald hx hb hK hI 94 (by decide) rfl dL_law_699 ?_
        refine lv_iload hx hb dL_law_700 (lv_at hl 0 rfl) ?_
        refine lv_i2l hx hb dL_law_702 rfl ?_
        refine W.lcmp hx hb dL_law_703 ?_
        refine lv_if_eq (tgt := 709) hx hb dL_law_704 (by decide) (fun c_704 => ?_) (fun c_704 => ?_)
        · rw [if_pos c_704] at h
          refine W.widen (k := 601024 - 4 * n) (n := 7293034 - 24 * n) (by omega) (by omega) ?_
          exact jL_law_709_w l hfl G cy g b a o bs sl_ xs S hr hlocks hK hZ hX hbl hbA hA9 n h9 d_664 t sl_664 hn_664 hs_664 cs ln rp rn rt z_676 rows_676 asd sm_676 buf bm th_676 od om ow ca bo la pl to rd hh ou_664 x4 (lL_law_23 sl_ xs n) ih _ _ _ h hI (lv_sub hl [2,3,4,5,6] rfl)
        rw [if_neg c_704] at h
        refine lv_iconst (v := 0) hx hb dL_law_707 rfl ?_
        exact bw_none h
      rw [if_neg c_687] at h
      refine lv_iconst (v := 0) hx hb dL_law_690 rfl ?_
      exact bw_none h
    rw [if_neg c_39_7] at h
    by_cases c_39_8 : (v35 &&& 31) = 8
    · rw [if_pos c_39_8] at h
      refine lv_tableIn (tgt := 712) hx hb dL_law_39 (by rw [c_39_8]; decide) (by rw [c_39_8]; decide) (by rw [c_39_8]; rfl) (by decide) ?_
      refine lv_aload_n hx hb dL_law_712 rfl (lv_at hl 1 rfl) ?_
      refine lv_aload_n hx hb dL_law_713 rfl (lv_at hl 0 rfl) ?_
      refine lv_iload hx hb dL_law_714 (lv_at hl 4 rfl) ?_
      refine lv_iconst (v := 1) hx hb dL_law_716 rfl ?_
      refine lv_iadd hx hb dL_law_717 ?_
      obtain ⟨v718, hv, h⟩ := bw_b1_e h
      refine bw_scr hx hb hX hbl hbA hI hv dL_law_718 ?_
      refine lv_aload_n hx hb dL_law_719 rfl (lv_at hl 3 rfl) ?_
      obtain ⟨r720, cs_720, ln_720, ou_720, hc, h⟩ := bw_b4_e h
      refine bw_callH S hK hZ hI (mL_append l hfl G cy g b o d t sl hn hs cs ln rp rn rt v718 ou r720 cs_720 ln_720 ou_720 hc) Y_L_append l_L_118 ⟨(Nat.le_of_ble_eq_true rfl), (Nat.le_of_ble_eq_true rfl)⟩ (ws' := (bw_lW cy b a o d t sl hn hs cs_720 ln_720 rp rn rt z rows asd sm buf bm th od om ow ca bo la pl to rd hh ou_720)) (bw_pl_h cy b a o d t sl hn hs cs ln rp rn rt z rows asd sm buf bm th od om ow ca bo la pl to rd hh ou) (bw_pl_h cy b a o d t sl hn hs cs_720 ln_720 rp rn rt z rows asd sm buf bm th od om ow ca bo la pl to rd hh ou_720).symm rfl rfl hl.1 (rest := []) (st1 := [.int r720]) rfl rfl (Nat.le_of_ble_eq_true rfl) dL_law_720 ⟨(by show _ ≤ 601024; omega), (by show _ ≤ 7293034; omega)⟩ (fun H locs hI => ?_)
      refine lv_istore (lv' := [(5, .int r720), (0, .ref bs), (1, .ref (b 8 5)), (2, .ref (a 0)), (3, .ref o), (4, .int x4)]) hx hb dL_law_723 hl (by decide) rfl (fun ls hl => ?_)
      refine lv_aload_n hx hb dL_law_725 rfl (lv_at hl 3 rfl) ?_
      refine lv_aload_n hx hb dL_law_726 rfl (lv_at hl 1 rfl) ?_
      refine lv_iload hx hb dL_law_727 (lv_at hl 5 rfl) ?_
      refine lv_iconst (v := 1) hx hb dL_law_729 rfl ?_
      refine lv_iadd hx hb dL_law_730 ?_
      obtain ⟨v731, hv, h⟩ := bw_b1_e h
      refine bw_scr hx hb hX hbl hbA hI hv dL_law_731 ?_
      obtain ⟨r732, buf_732, bm_732, th_732, hc, h⟩ := bw_b4_e h
      refine bw_callV S hK hZ hI (mX6_append l G cy g a z rows asd sm buf bm th od om ow ca bo la pl to rd hh v731 r732 buf_732 bm_732 th_732 hc) Y_X6_append V_X6_append l_L_120 ⟨(Nat.le_of_ble_eq_true rfl), (Nat.le_of_ble_eq_true rfl)⟩ (q0 := 0) rfl rfl rfl (ws' := (bw_lW cy b a o d t sl hn hs cs_720 ln_720 rp rn rt z rows asd sm buf_732 bm_732 th_732 od om ow ca bo la pl to rd hh ou_720)) (bw_pl_m cy b a o d t sl hn hs cs_720 ln_720 rp rn rt z rows asd sm buf bm th od om ow ca bo la pl to rd hh ou_720) (bw_pl_m cy b a o d t sl hn hs cs_720 ln_720 rp rn rt z rows asd sm buf_732 bm_732 th_732 od om ow ca bo la pl to rd hh ou_720).symm rfl rfl hl.1 (rest := []) (st1 := [.int r732]) rfl rfl (Nat.le_of_ble_eq_true rfl) dL_law_732 ⟨(by show _ ≤ 601024; omega), (by show _ ≤ 7293034; omega)⟩ (fun H locs hI => ?_)
      refine lv_istore (lv' := [(6, .int r732), (5, .int r720), (0, .ref bs), (1, .ref (b 8 5)), (2, .ref (a 0)), (3, .ref o), (4, .int x4)]) hx hb dL_law_735 hl (by decide) rfl (fun ls hl => ?_)
      refine lv_aload_n hx hb dL_law_737 rfl (lv_at hl 4 rfl) ?_
      obtain ⟨r738, hc, h⟩ := bw_b1_e h
      refine bw_callV S hK hZ hI (mX6_thrown l G cy g a z rows asd sm buf_732 bm_732 th_732 od om ow ca bo la pl to rd hh r738 hc) Y_X6_thrown V_X6_thrown l_L_92 ⟨(Nat.le_of_ble_eq_true rfl), (Nat.le_of_ble_eq_true rfl)⟩ (q0 := 0) rfl rfl rfl (ws' := (bw_lW cy b a o d t sl hn hs cs_720 ln_720 rp rn rt z rows asd sm buf_732 bm_732 th_732 od om ow ca bo la pl to rd hh ou_720)) (bw_pl_m cy b a o d t sl hn hs cs_720 ln_720 rp rn rt z rows asd sm buf_732 bm_732 th_732 od om ow ca bo la pl to rd hh ou_720) (bw_pl_m cy b a o d t sl hn hs cs_720 ln_720 rp rn rt z rows asd sm buf_732 bm_732 th_732 od om ow ca bo la pl to rd hh ou_720).symm rfl rfl hl.1 (rest := []) (st1 := [.int r738]) rfl rfl (Nat.le_of_ble_eq_true rfl) dL_law_738 ⟨(by show _ ≤ 601024; omega), (by show _ ≤ 7293034; omega)⟩ (fun H locs hI => ?_)
      refine lv_iload hx hb dL_law_741 (lv_at hl 1 rfl) ?_
      refine lv_icmp_eq (tgt := 748) hx hb dL_law_743 (by decide) (fun c_743 => ?_) (fun c_743 => ?_)
      · rw [if_pos c_743] at h
        refine lv_iload hx hb dL_law_748 (lv_at hl 1 rfl) ?_
        refine lv_if_ne (tgt := 765) hx hb dL_law_750 (by decide) (fun c_750 => ?_) (fun c_750 => ?_)
        · rw [if_neg c_750] at h
          refine W.widen (k := 601024 - 4 * n) (n := 7293034 - 24 * n) (by omega) (by omega) ?_
          exact jL_law_765_w l hfl G cy g b a o bs sl_ xs S hr hlocks hK hZ hX hbl hbA hA9 n h9 d t sl hn hs cs_720 ln_720 rp rn rt z rows asd sm buf_732 bm_732 th_732 od om ow ca bo la pl to rd hh ou_720 x4 (lL_law_23 sl_ xs n) ih _ _ _ h hI (lv_sub hl [2,3,4,5,6] rfl)
        rw [if_pos c_750] at h
        refine lv_aload_n hx hb dL_law_753 rfl (lv_at hl 5 rfl) ?_
        refine lv_iconst (v := 0) hx hb dL_law_754 rfl ?_
        refine bw_lald hx hb hK hI 94 (by decide) rfl dL_law_755 ?_
        refine lv_iload hx hb dL_law_756 (lv_at hl 0 rfl) ?_
        refine lv_i2l hx hb dL_law_758 rfl ?_
        refine W.lcmp hx hb dL_law_759 ?_
        refine lv_if_eq (tgt := 765) hx hb dL_law_760 (by decide) (fun c_760 => ?_) (fun c_760 => ?_)
        · rw [if_pos c_760] at h
          refine W.widen (k := 601024 - 4 * n) (n := 7293034 - 24 * n) (by omega) (by omega) ?_
          exact jL_law_765_w l hfl G cy g b a o bs sl_ xs S hr hlocks hK hZ hX hbl hbA hA9 n h9 d t sl hn hs cs_720 ln_720 rp rn rt z rows asd sm buf_732 bm_732 th_732 od om ow ca bo la pl to rd hh ou_720 x4 (lL_law_23 sl_ xs n) ih _ _ _ h hI (lv_sub hl [2,3,4,5,6] rfl)
        rw [if_neg c_760] at h
        refine lv_iconst (v := 0) hx hb dL_law_763 rfl ?_
        exact bw_none h
      rw [if_neg c_743] at h
      refine lv_iconst (v := 0) hx hb dL_law_746 rfl ?_
      exact bw_none h
    rw [if_neg c_39_8] at h
    by_cases c_39_9 : (v35 &&& 31) = 9
    · rw [if_pos c_39_9] at h
      refine lv_tableIn (tgt := 768) hx hb dL_law_39 (by rw [c_39_9]; decide) (by rw [c_39_9]; decide) (by rw [c_39_9]; rfl) (by decide) ?_
      refine lv_aload_n hx hb dL_law_768 rfl (lv_at hl 1 rfl) ?_
      obtain ⟨r769, ln_769, hc, h⟩ := bw_b2_e h
      refine bw_callV S hK hZ hI (mX5_clearBuffer l G cy g b d t sl hn hs cs ln rp rn rt r769 ln_769 hc) Y_X5_clearBuffer V_X5_clearBuffer l_L_121 ⟨(Nat.le_of_ble_eq_true rfl), (Nat.le_of_ble_eq_true rfl)⟩ (q0 := 0) rfl rfl rfl (ws' := (bw_lW cy b a o d t sl hn hs cs ln_769 rp rn rt z rows asd sm buf bm th od om ow ca bo la pl to rd hh ou)) (bw_pl_x cy b a o d t sl hn hs cs ln rp rn rt z rows asd sm buf bm th od om ow ca bo la pl to rd hh ou) (bw_pl_x cy b a o d t sl hn hs cs ln_769 rp rn rt z rows asd sm buf bm th od om ow ca bo la pl to rd hh ou).symm rfl rfl hl.1 (rest := []) (st1 := [.int r769]) rfl rfl (Nat.le_of_ble_eq_true rfl) dL_law_769 ⟨(by show _ ≤ 601024; omega), (by show _ ≤ 7293034; omega)⟩ (fun H locs hI => ?_)
      refine lv_aload_n hx hb dL_law_772 rfl (lv_at hl 2 rfl) ?_
      obtain ⟨r773, bm_773, th_773, hc, h⟩ := bw_b3_e h
      refine bw_callV S hK hZ hI (mX6_clearBuffer l G cy g a z rows asd sm buf bm th od om ow ca bo la pl to rd hh r773 bm_773 th_773 hc) Y_X6_clearBuffer V_X6_clearBuffer l_L_124 ⟨(Nat.le_of_ble_eq_true rfl), (Nat.le_of_ble_eq_true rfl)⟩ (q0 := 0) rfl rfl rfl (ws' := (bw_lW cy b a o d t sl hn hs cs ln_769 rp rn rt z rows asd sm buf bm_773 th_773 od om ow ca bo la pl to rd hh ou)) (bw_pl_m cy b a o d t sl hn hs cs ln_769 rp rn rt z rows asd sm buf bm th od om ow ca bo la pl to rd hh ou) (bw_pl_m cy b a o d t sl hn hs cs ln_769 rp rn rt z rows asd sm buf bm_773 th_773 od om ow ca bo la pl to rd hh ou).symm rfl rfl hl.1 (rest := [.int r769]) (st1 := [.int r773, .int r769]) rfl rfl (Nat.le_of_ble_eq_true rfl) dL_law_773 ⟨(by show _ ≤ 601024; omega), (by show _ ≤ 7293034; omega)⟩ (fun H locs hI => ?_)
      refine lv_icmp_eq (tgt := 1618) hx hb dL_law_776 (by decide) (fun c_776 => ?_) (fun c_776 => ?_)
      · rw [if_pos c_776] at h
        refine W.widen (k := 601024 - 4 * n) (n := 7293034 - 24 * n) (by omega) (by omega) ?_
        exact jL_law_1618_w l hfl G cy g b a o bs sl_ xs S hr hlocks hK hZ hX hbl hbA hA9 n h9 d t sl hn hs cs ln_769 rp rn rt z rows asd sm buf bm_773 th_773 od om ow ca bo la pl to rd hh ou x4 (lL_law_23 sl_ xs n) ih _ _ _ h hI (lv_sub hl [0,1,2,3,4] rfl)
      rw [if_neg c_776] at h
      refine lv_iconst (v := 0) hx hb dL_law_779 rfl ?_
      exact bw_none h
    rw [if_neg c_39_9] at h
    by_cases c_39_10 : (v35 &&& 31) = 10
    · rw [if_pos c_39_10] at h
      refine lv_tableIn (tgt := 781) hx hb dL_law_39 (by rw [c_39_10]; decide) (by rw [c_39_10]; decide) (by rw [c_39_10]; rfl) (by decide) ?_
      refine lv_aload_n hx hb dL_law_781 rfl (lv_at hl 1 rfl) ?_
      obtain ⟨r782, rp_782, rn_782, rt_782, hc, h⟩ := bw_b4_e h
      refine bw_callV S hK hZ hI (mX5_firstError l G cy g b d t sl hn hs cs ln rp rn rt r782 rp_782 rn_782 rt_782 hc) Y_X5_firstError V_X5_firstError l_L_125 ⟨(Nat.le_of_ble_eq_true rfl), (Nat.le_of_ble_eq_true rfl)⟩ (q0 := 0) rfl rfl rfl (ws' := (bw_lW cy b a o d t sl hn hs cs ln rp_782 rn_782 rt_782 z rows asd sm buf bm th od om ow ca bo la pl to rd hh ou)) (bw_pl_x cy b a o d t sl hn hs cs ln rp rn rt z rows asd sm buf bm th od om ow ca bo la pl to rd hh ou) (bw_pl_x cy b a o d t sl hn hs cs ln rp_782 rn_782 rt_782 z rows asd sm buf bm th od om ow ca bo la pl to rd hh ou).symm rfl rfl hl.1 (rest := []) (st1 := [.int r782]) rfl rfl (Nat.le_of_ble_eq_true rfl) dL_law_782 ⟨(by show _ ≤ 601024; omega), (by show _ ≤ 7293034; omega)⟩ (fun H locs hI => ?_)
      refine lv_aload_n hx hb dL_law_785 rfl (lv_at hl 2 rfl) ?_
      obtain ⟨r786, th_786, pl_786, to_786, rd_786, hc, h⟩ := bw_b5_e h
      refine bw_callV S hK hZ hI (mX6_firstError l G cy g a z rows asd sm buf bm th od om ow ca bo la pl to rd hh r786 th_786 pl_786 to_786 rd_786 hc) Y_X6_firstError V_X6_firstError l_L_128 ⟨(Nat.le_of_ble_eq_true rfl), (Nat.le_of_ble_eq_true rfl)⟩ (q0 := 0) rfl rfl rfl (ws' := (bw_lW cy b a o d t sl hn hs cs ln rp_782 rn_782 rt_782 z rows asd sm buf bm th_786 od om ow ca bo la pl_786 to_786 rd_786 hh ou)) (bw_pl_m cy b a o d t sl hn hs cs ln rp_782 rn_782 rt_782 z rows asd sm buf bm th od om ow ca bo la pl to rd hh ou) (bw_pl_m cy b a o d t sl hn hs cs ln rp_782 rn_782 rt_782 z rows asd sm buf bm th_786 od om ow ca bo la pl_786 to_786 rd_786 hh ou).symm rfl rfl hl.1 (rest := [.int r782]) (st1 := [.int r786, .int r782]) rfl rfl (Nat.le_of_ble_eq_true rfl) dL_law_786 ⟨(by show _ ≤ 601024; omega), (by show _ ≤ 7293034; omega)⟩ (fun H locs hI => ?_)
      refine lv_icmp_eq (tgt := 1618) hx hb dL_law_789 (by decide) (fun c_789 => ?_) (fun c_789 => ?_)
      · rw [if_pos c_789] at h
        refine W.widen (k := 601024 - 4 * n) (n := 7293034 - 24 * n) (by omega) (by omega) ?_
        exact jL_law_1618_w l hfl G cy g b a o bs sl_ xs S hr hlocks hK hZ hX hbl hbA hA9 n h9 d t sl hn hs cs ln rp_782 rn_782 rt_782 z rows asd sm buf bm th_786 od om ow ca bo la pl_786 to_786 rd_786 hh ou x4 (lL_law_23 sl_ xs n) ih _ _ _ h hI (lv_sub hl [0,1,2,3,4] rfl)
      rw [if_neg c_789] at h
      refine lv_iconst (v := 0) hx hb dL_law_792 rfl ?_
      exact bw_none h
    rw [if_neg c_39_10] at h
    by_cases c_39_11 : (v35 &&& 31) = 11
    · rw [if_pos c_39_11] at h
      refine lv_tableIn (tgt := 794) hx hb dL_law_39 (by rw [c_39_11]; decide) (by rw [c_39_11]; decide) (by rw [c_39_11]; rfl) (by decide) ?_
      refine lv_aload_n hx hb dL_law_794 rfl (lv_at hl 1 rfl) ?_
      refine lv_aload_n hx hb dL_law_795 rfl (lv_at hl 3 rfl) ?_
      obtain ⟨r796, d_796, sl_796, hn_796, hs_796, ln_796, rp_796, rn_796, rt_796, ou_796, hc, h⟩ := bw_b10_e h
      refine bw_callH S hK hZ hI (mL_openAll l hfl G cy g b o d t sl hn hs cs ln rp rn rt ou r796 d_796 sl_796 hn_796 hs_796 ln_796 rp_796 rn_796 rt_796 ou_796 hc) Y_L_openAll l_L_129 ⟨(Nat.le_of_ble_eq_true rfl), (Nat.le_of_ble_eq_true rfl)⟩ (ws' := (bw_lW cy b a o d_796 t sl_796 hn_796 hs_796 cs ln_796 rp_796 rn_796 rt_796 z rows asd sm buf bm th od om ow ca bo la pl to rd hh ou_796)) (bw_pl_h cy b a o d t sl hn hs cs ln rp rn rt z rows asd sm buf bm th od om ow ca bo la pl to rd hh ou) (bw_pl_h cy b a o d_796 t sl_796 hn_796 hs_796 cs ln_796 rp_796 rn_796 rt_796 z rows asd sm buf bm th od om ow ca bo la pl to rd hh ou_796).symm rfl rfl hl.1 (rest := []) (st1 := [.int r796]) rfl rfl (Nat.le_of_ble_eq_true rfl) dL_law_796 ⟨(by show _ ≤ 601024; omega), (by show _ ≤ 7293034; omega)⟩ (fun H locs hI => ?_)
      refine lv_istore (lv' := [(5, .int r796), (0, .ref bs), (1, .ref (b 8 5)), (2, .ref (a 0)), (3, .ref o), (4, .int x4)]) hx hb dL_law_799 hl (by decide) rfl (fun ls hl => ?_)
      refine lv_aload_n hx hb dL_law_801 rfl (lv_at hl 3 rfl) ?_
      obtain ⟨r802, z_802, rows_802, sm_802, bm_802, th_802, pl_802, to_802, rd_802, hc, h⟩ := bw_b9_e h
      refine bw_callV S hK hZ hI (mX6_openAll l G cy g a z rows asd sm buf bm th od om ow ca bo la pl to rd hh r802 z_802 rows_802 sm_802 bm_802 th_802 pl_802 to_802 rd_802 hc) Y_X6_openAll V_X6_openAll l_L_132 ⟨(Nat.le_of_ble_eq_true rfl), (Nat.le_of_ble_eq_true rfl)⟩ (q0 := 0) rfl rfl rfl (ws' := (bw_lW cy b a o d_796 t sl_796 hn_796 hs_796 cs ln_796 rp_796 rn_796 rt_796 z_802 rows_802 asd sm_802 buf bm_802 th_802 od om ow ca bo la pl_802 to_802 rd_802 hh ou_796)) (bw_pl_m cy b a o d_796 t sl_796 hn_796 hs_796 cs ln_796 rp_796 rn_796 rt_796 z rows asd sm buf bm th od om ow ca bo la pl to rd hh ou_796) (bw_pl_m cy b a o d_796 t sl_796 hn_796 hs_796 cs ln_796 rp_796 rn_796 rt_796 z_802 rows_802 asd sm_802 buf bm_802 th_802 od om ow ca bo la pl_802 to_802 rd_802 hh ou_796).symm rfl rfl hl.1 (rest := []) (st1 := [.int r802]) rfl rfl (Nat.le_of_ble_eq_true rfl) dL_law_802 ⟨(by show _ ≤ 601024; omega), (by show _ ≤ 7293034; omega)⟩ (fun H locs hI => ?_)
      refine lv_istore (lv' := [(6, .int r802), (5, .int r796), (0, .ref bs), (1, .ref (b 8 5)), (2, .ref (a 0)), (3, .ref o), (4, .int x4)]) hx hb dL_law_805 hl (by decide) rfl (fun ls hl => ?_)
      refine lv_aload_n hx hb dL_law_807 rfl (lv_at hl 4 rfl) ?_
      obtain ⟨r808, hc, h⟩ := bw_b1_e h
      refine bw_callV S hK hZ hI (mX6_thrown l G cy g a z_802 rows_802 asd sm_802 buf bm_802 th_802 od om ow ca bo la pl_802 to_802 rd_802 hh r808 hc) Y_X6_thrown V_X6_thrown l_L_92 ⟨(Nat.le_of_ble_eq_true rfl), (Nat.le_of_ble_eq_true rfl)⟩ (q0 := 0) rfl rfl rfl (ws' := (bw_lW cy b a o d_796 t sl_796 hn_796 hs_796 cs ln_796 rp_796 rn_796 rt_796 z_802 rows_802 asd sm_802 buf bm_802 th_802 od om ow ca bo la pl_802 to_802 rd_802 hh ou_796)) (bw_pl_m cy b a o d_796 t sl_796 hn_796 hs_796 cs ln_796 rp_796 rn_796 rt_796 z_802 rows_802 asd sm_802 buf bm_802 th_802 od om ow ca bo la pl_802 to_802 rd_802 hh ou_796) (bw_pl_m cy b a o d_796 t sl_796 hn_796 hs_796 cs ln_796 rp_796 rn_796 rt_796 z_802 rows_802 asd sm_802 buf bm_802 th_802 od om ow ca bo la pl_802 to_802 rd_802 hh ou_796).symm rfl rfl hl.1 (rest := []) (st1 := [.int r808]) rfl rfl (Nat.le_of_ble_eq_true rfl) dL_law_808 ⟨(by show _ ≤ 601024; omega), (by show _ ≤ 7293034; omega)⟩ (fun H locs hI => ?_)
      refine lv_iload hx hb dL_law_811 (lv_at hl 1 rfl) ?_
      refine lv_icmp_eq (tgt := 818) hx hb dL_law_813 (by decide) (fun c_813 => ?_) (fun c_813 => ?_)
      · rw [if_pos c_813] at h
        refine lv_iload hx hb dL_law_818 (lv_at hl 1 rfl) ?_
        refine lv_if_ne (tgt := 835) hx hb dL_law_820 (by decide) (fun c_820 => ?_) (fun c_820 => ?_)
        · rw [if_neg c_820] at h
          refine W.widen (k := 601024 - 4 * n) (n := 7293034 - 24 * n) (by omega) (by omega) ?_
          exact jL_law_835_w l hfl G cy g b a o bs sl_ xs S hr hlocks hK hZ hX hbl hbA hA9 n h9 d_796 t sl_796 hn_796 hs_796 cs ln_796 rp_796 rn_796 rt_796 z_802 rows_802 asd sm_802 buf bm_802 th_802 od om ow ca bo la pl_802 to_802 rd_802 hh ou_796 x4 (lL_law_23 sl_ xs n) ih _ _ _ h hI (lv_sub hl [2,3,4,5,6] rfl)
        rw [if_pos c_820] at h
        refine lv_aload_n hx hb dL_law_823 rfl (lv_at hl 5 rfl) ?_
        refine lv_iconst (v := 0) hx hb dL_law_824 rfl ?_
        refine bw_lald hx hb hK hI 94 (by decide) rfl dL_law_825 ?_
        refine lv_iload hx hb dL_law_826 (lv_at hl 0 rfl) ?_
        refine lv_i2l hx hb dL_law_828 rfl ?_
        refine W.lcmp hx hb dL_law_829 ?_
        refine lv_if_eq (tgt := 835) hx hb dL_law_830 (by decide) (fun c_830 => ?_) (fun c_830 => ?_)
        · rw [if_pos c_830] at h
          refine W.widen (k := 601024 - 4 * n) (n := 7293034 - 24 * n) (by omega) (by omega) ?_
          exact jL_law_835_w l hfl G cy g b a o bs sl_ xs S hr hlocks hK hZ hX hbl hbA hA9 n h9 d_796 t sl_796 hn_796 hs_796 cs ln_796 rp_796 rn_796 rt_796 z_802 rows_802 asd sm_802 buf bm_802 th_802 od om ow ca bo la pl_802 to_802 rd_802 hh ou_796 x4 (lL_law_23 sl_ xs n) ih _ _ _ h hI (lv_sub hl [2,3,4,5,6] rfl)
        rw [if_neg c_830] at h
        refine lv_iconst (v := 0) hx hb dL_law_833 rfl ?_
        exact bw_none h
      rw [if_neg c_813] at h
      refine lv_iconst (v := 0) hx hb dL_law_816 rfl ?_
      exact bw_none h
    rw [if_neg c_39_11] at h
    by_cases c_39_12 : (v35 &&& 31) = 12
    · rw [if_pos c_39_12] at h
      refine lv_tableIn (tgt := 838) hx hb dL_law_39 (by rw [c_39_12]; decide) (by rw [c_39_12]; decide) (by rw [c_39_12]; rfl) (by decide) ?_
      refine lv_aload_n hx hb dL_law_838 rfl (lv_at hl 1 rfl) ?_
      refine lv_aload_n hx hb dL_law_839 rfl (lv_at hl 3 rfl) ?_
      obtain ⟨r840, d_840, hn_840, hs_840, ou_840, hc, h⟩ := bw_b5_e h
      refine bw_callH S hK hZ hI (mL_undo l hfl G cy g b o d t sl hn hs cs ln rp rn rt ou r840 d_840 hn_840 hs_840 ou_840 hc) Y_L_undo l_L_133 ⟨(Nat.le_of_ble_eq_true rfl), (Nat.le_of_ble_eq_true rfl)⟩ (ws' := (bw_lW cy b a o d_840 t sl hn_840 hs_840 cs ln rp rn rt z rows asd sm buf bm th od om ow ca bo la pl to rd hh ou_840)) (bw_pl_h cy b a o d t sl hn hs cs ln rp rn rt z rows asd sm buf bm th od om ow ca bo la pl to rd hh ou) (bw_pl_h cy b a o d_840 t sl hn_840 hs_840 cs ln rp rn rt z rows asd sm buf bm th od om ow ca bo la pl to rd hh ou_840).symm rfl rfl hl.1 (rest := []) (st1 := [.int r840]) rfl rfl (Nat.le_of_ble_eq_true rfl) dL_law_840 ⟨(by show _ ≤ 601024; omega), (by show _ ≤ 7293034; omega)⟩ (fun H locs hI => ?_)
      refine lv_istore (lv' := [(5, .int r840), (0, .ref bs), (1, .ref (b 8 5)), (2, .ref (a 0)), (3, .ref o), (4, .int x4)]) hx hb dL_law_843 hl (by decide) rfl (fun ls hl => ?_)
      refine lv_aload_n hx hb dL_law_845 rfl (lv_at hl 3 rfl) ?_
      obtain ⟨r846, z_846, sm_846, th_846, hc, h⟩ := bw_b4_e h
      refine bw_callV S hK hZ hI (mX6_undo l G cy g a z rows asd sm buf bm th od om ow ca bo la pl to rd hh r846 z_846 sm_846 th_846 hc) Y_X6_undo V_X6_undo l_L_135 ⟨(Nat.le_of_ble_eq_true rfl), (Nat.le_of_ble_eq_true rfl)⟩ (q0 := 0) rfl rfl rfl (ws' := (bw_lW cy b a o d_840 t sl hn_840 hs_840 cs ln rp rn rt z_846 rows asd sm_846 buf bm th_846 od om ow ca bo la pl to rd hh ou_840)) (bw_pl_m cy b a o d_840 t sl hn_840 hs_840 cs ln rp rn rt z rows asd sm buf bm th od om ow ca bo la pl to rd hh ou_840) (bw_pl_m cy b a o d_840 t sl hn_840 hs_840 cs ln rp rn rt z_846 rows asd sm_846 buf bm th_846 od om ow ca bo la pl to rd hh ou_840).symm rfl rfl hl.1 (rest := []) (st1 := [.int r846]) rfl rfl (Nat.le_of_ble_eq_true rfl) dL_law_846 ⟨(by show _ ≤ 601024; omega), (by show _ ≤ 7293034; omega)⟩ (fun H locs hI => ?_)
      refine lv_istore (lv' := [(6, .int r846), (5, .int r840), (0, .ref bs), (1, .ref (b 8 5)), (2, .ref (a 0)), (3, .ref o), (4, .int x4)]) hx hb dL_law_849 hl (by decide) rfl (fun ls hl => ?_)
      refine lv_aload_n hx hb dL_law_851 rfl (lv_at hl 4 rfl) ?_
      obtain ⟨r852, hc, h⟩ := bw_b1_e h
      refine bw_callV S hK hZ hI (mX6_thrown l G cy g a z_846 rows asd sm_846 buf bm th_846 od om ow ca bo la pl to rd hh r852 hc) Y_X6_thrown V_X6_thrown l_L_92 ⟨(Nat.le_of_ble_eq_true rfl), (Nat.le_of_ble_eq_true rfl)⟩ (q0 := 0) rfl rfl rfl (ws' := (bw_lW cy b a o d_840 t sl hn_840 hs_840 cs ln rp rn rt z_846 rows asd sm_846 buf bm th_846 od om ow ca bo la pl to rd hh ou_840)) (bw_pl_m cy b a o d_840 t sl hn_840 hs_840 cs ln rp rn rt z_846 rows asd sm_846 buf bm th_846 od om ow ca bo la pl to rd hh ou_840) (bw_pl_m cy b a o d_840 t sl hn_840 hs_840 cs ln rp rn rt z_846 rows asd sm_846 buf bm th_846 od om ow ca bo la pl to rd hh ou_840).symm rfl rfl hl.1 (rest := []) (st1 := [.int r852]) rfl rfl (Nat.le_of_ble_eq_true rfl) dL_law_852 ⟨(by show _ ≤ 601024; omega), (by show _ ≤ 7293034; omega)⟩ (fun H locs hI => ?_)
      refine lv_iload hx hb dL_law_855 (lv_at hl 1 rfl) ?_
      refine lv_icmp_eq (tgt := 862) hx hb dL_law_857 (by decide) (fun c_857 => ?_) (fun c_857 => ?_)
      · rw [if_pos c_857] at h
        refine lv_iload hx hb dL_law_862 (lv_at hl 1 rfl) ?_
        refine lv_if_ne (tgt := 879) hx hb dL_law_864 (by decide) (fun c_864 => ?_) (fun c_864 => ?_)
        · rw [if_neg c_864] at h
          refine W.widen (k := 601024 - 4 * n) (n := 7293034 - 24 * n) (by omega) (by omega) ?_
          exact jL_law_879_w l hfl G cy g b a o bs sl_ xs S hr hlocks hK hZ hX hbl hbA hA9 n h9 d_840 t sl hn_840 hs_840 cs ln rp rn rt z_846 rows asd sm_846 buf bm th_846 od om ow ca bo la pl to rd hh ou_840 x4 (lL_law_23 sl_ xs n) ih _ _ _ h hI (lv_sub hl [2,3,4,5,6] rfl)
        rw [if_pos c_864] at h
        refine lv_aload_n hx hb dL_law_867 rfl (lv_at hl 5 rfl) ?_
        refine lv_iconst (v := 0) hx hb dL_law_868 rfl ?_
        refine bw_lald hx hb hK hI 94 (by decide) rfl dL_law_869 ?_
        refine lv_iload hx hb dL_law_870 (lv_at hl 0 rfl) ?_
        refine lv_i2l hx hb dL_law_872 rfl ?_
        refine W.lcmp hx hb dL_law_873 ?_
        refine lv_if_eq (tgt := 879) hx hb dL_law_874 (by decide) (fun c_874 => ?_) (fun c_874 => ?_)
        · rw [if_pos c_874] at h
          refine W.widen (k := 601024 - 4 * n) (n := 7293034 - 24 * n) (by omega) (by omega) ?_
          exact jL_law_879_w l hfl G cy g b a o bs sl_ xs S hr hlocks hK hZ hX hbl hbA hA9 n h9 d_840 t sl hn_840 hs_840 cs ln rp rn rt z_846 rows asd sm_846 buf bm th_846 od om ow ca bo la pl to rd hh ou_840 x4 (lL_law_23 sl_ xs n) ih _ _ _ h hI (lv_sub hl [2,3,4,5,6] rfl)
        rw [if_neg c_874] at h
        refine lv_iconst (v := 0) hx hb dL_law_877 rfl ?_
        exact bw_none h
      rw [if_neg c_857] at h
      refine lv_iconst (v := 0) hx hb dL_law_860 rfl ?_
      exact bw_none h
    rw [if_neg c_39_12] at h
    by_cases c_39_13 : (v35 &&& 31) = 13
    · rw [if_pos c_39_13] at h
      refine lv_tableIn (tgt := 882) hx hb dL_law_39 (by rw [c_39_13]; decide) (by rw [c_39_13]; decide) (by rw [c_39_13]; rfl) (by decide) ?_
      refine lv_aload_n hx hb dL_law_882 rfl (lv_at hl 1 rfl) ?_
      refine lv_aload_n hx hb dL_law_883 rfl (lv_at hl 0 rfl) ?_
      refine lv_iload hx hb dL_law_884 (lv_at hl 4 rfl) ?_
      refine lv_iconst (v := 1) hx hb dL_law_886 rfl ?_
      refine lv_iadd hx hb dL_law_887 ?_
      obtain ⟨v888, hv, h⟩ := bw_b1_e h
      refine bw_scr hx hb hX hbl hbA hI hv dL_law_888 ?_
      refine lv_aload_n hx hb dL_law_889 rfl (lv_at hl 0 rfl) ?_
      refine lv_iload hx hb dL_law_890 (lv_at hl 4 rfl) ?_
      refine lv_iconst (v := 2) hx hb dL_law_892 rfl ?_
      refine lv_iadd hx hb dL_law_893 ?_
      obtain ⟨v894, hv, h⟩ := bw_b1_e h
      refine bw_scr hx hb hX hbl hbA hI hv dL_law_894 ?_
      refine lv_aload_n hx hb dL_law_895 rfl (lv_at hl 3 rfl) ?_
      obtain ⟨r896, ou_896, hc, h⟩ := bw_b2_e h
      refine bw_callH S hK hZ hI (mL_project l hfl G cy g b o d t sl hn hs cs ln rp rn rt v888 v894 ou r896 ou_896 hc) Y_L_project l_L_136 ⟨(Nat.le_of_ble_eq_true rfl), (Nat.le_of_ble_eq_true rfl)⟩ (ws' := (bw_lW cy b a o d t sl hn hs cs ln rp rn rt z rows asd sm buf bm th od om ow ca bo la pl to rd hh ou_896)) (bw_pl_h cy b a o d t sl hn hs cs ln rp rn rt z rows asd sm buf bm th od om ow ca bo la pl to rd hh ou) (bw_pl_h cy b a o d t sl hn hs cs ln rp rn rt z rows asd sm buf bm th od om ow ca bo la pl to rd hh ou_896).symm rfl rfl hl.1 (rest := []) (st1 := [.int r896]) rfl rfl (Nat.le_of_ble_eq_true rfl) dL_law_896 ⟨(by show _ ≤ 601024; omega), (by show _ ≤ 7293034; omega)⟩ (fun H locs hI => ?_)
      refine lv_istore (lv' := [(5, .int r896), (0, .ref bs), (1, .ref (b 8 5)), (2, .ref (a 0)), (3, .ref o), (4, .int x4)]) hx hb dL_law_899 hl (by decide) rfl (fun ls hl => ?_)
      refine lv_aload_n hx hb dL_law_901 rfl (lv_at hl 3 rfl) ?_
      refine lv_aload_n hx hb dL_law_902 rfl (lv_at hl 1 rfl) ?_
      refine lv_iload hx hb dL_law_903 (lv_at hl 5 rfl) ?_
      refine lv_iconst (v := 1) hx hb dL_law_905 rfl ?_
      refine lv_iadd hx hb dL_law_906 ?_
      obtain ⟨v907, hv, h⟩ := bw_b1_e h
      refine bw_scr hx hb hX hbl hbA hI hv dL_law_907 ?_
      refine lv_aload_n hx hb dL_law_908 rfl (lv_at hl 1 rfl) ?_
      refine lv_iload hx hb dL_law_909 (lv_at hl 5 rfl) ?_
      refine lv_iconst (v := 2) hx hb dL_law_911 rfl ?_
      refine lv_iadd hx hb dL_law_912 ?_
      obtain ⟨v913, hv, h⟩ := bw_b1_e h
      refine bw_scr hx hb hX hbl hbA hI hv dL_law_913 ?_
      obtain ⟨r914, th_914, hc, h⟩ := bw_b2_e h
      refine bw_callV S hK hZ hI (mX6_project l G cy g a z rows asd sm buf bm th od om ow ca bo la pl to rd hh v907 v913 r914 th_914 hc) Y_X6_project V_X6_project l_L_138 ⟨(Nat.le_of_ble_eq_true rfl), (Nat.le_of_ble_eq_true rfl)⟩ (q0 := 0) rfl rfl rfl (ws' := (bw_lW cy b a o d t sl hn hs cs ln rp rn rt z rows asd sm buf bm th_914 od om ow ca bo la pl to rd hh ou_896)) (bw_pl_m cy b a o d t sl hn hs cs ln rp rn rt z rows asd sm buf bm th od om ow ca bo la pl to rd hh ou_896) (bw_pl_m cy b a o d t sl hn hs cs ln rp rn rt z rows asd sm buf bm th_914 od om ow ca bo la pl to rd hh ou_896).symm rfl rfl hl.1 (rest := []) (st1 := [.int r914]) rfl rfl (Nat.le_of_ble_eq_true rfl) dL_law_914 ⟨(by show _ ≤ 601024; omega), (by show _ ≤ 7293034; omega)⟩ (fun H locs hI => ?_)
      refine lv_istore (lv' := [(6, .int r914), (5, .int r896), (0, .ref bs), (1, .ref (b 8 5)), (2, .ref (a 0)), (3, .ref o), (4, .int x4)]) hx hb dL_law_917 hl (by decide) rfl (fun ls hl => ?_)
      refine lv_aload_n hx hb dL_law_919 rfl (lv_at hl 4 rfl) ?_
      obtain ⟨r920, hc, h⟩ := bw_b1_e h
      refine bw_callV S hK hZ hI (mX6_thrown l G cy g a z rows asd sm buf bm th_914 od om ow ca bo la pl to rd hh r920 hc) Y_X6_thrown V_X6_thrown l_L_92 ⟨(Nat.le_of_ble_eq_true rfl), (Nat.le_of_ble_eq_true rfl)⟩ (q0 := 0) rfl rfl rfl (ws' := (bw_lW cy b a o d t sl hn hs cs ln rp rn rt z rows asd sm buf bm th_914 od om ow ca bo la pl to rd hh ou_896)) (bw_pl_m cy b a o d t sl hn hs cs ln rp rn rt z rows asd sm buf bm th_914 od om ow ca bo la pl to rd hh ou_896) (bw_pl_m cy b a o d t sl hn hs cs ln rp rn rt z rows asd sm buf bm th_914 od om ow ca bo la pl to rd hh ou_896).symm rfl rfl hl.1 (rest := []) (st1 := [.int r920]) rfl rfl (Nat.le_of_ble_eq_true rfl) dL_law_920 ⟨(by show _ ≤ 601024; omega), (by show _ ≤ 7293034; omega)⟩ (fun H locs hI => ?_)
      refine lv_iload hx hb dL_law_923 (lv_at hl 1 rfl) ?_
      refine lv_icmp_eq (tgt := 930) hx hb dL_law_925 (by decide) (fun c_925 => ?_) (fun c_925 => ?_)
      · rw [if_pos c_925] at h
        refine lv_iload hx hb dL_law_930 (lv_at hl 1 rfl) ?_
        refine lv_if_ne (tgt := 947) hx hb dL_law_932 (by decide) (fun c_932 => ?_) (fun c_932 => ?_)
        · rw [if_neg c_932] at h
          refine W.widen (k := 601024 - 4 * n) (n := 7293034 - 24 * n) (by omega) (by omega) ?_
          exact jL_law_947_w l hfl G cy g b a o bs sl_ xs S hr hlocks hK hZ hX hbl hbA hA9 n h9 d t sl hn hs cs ln rp rn rt z rows asd sm buf bm th_914 od om ow ca bo la pl to rd hh ou_896 x4 (lL_law_23 sl_ xs n) ih _ _ _ h hI (lv_sub hl [2,3,4,5,6] rfl)
        rw [if_pos c_932] at h
        refine lv_aload_n hx hb dL_law_935 rfl (lv_at hl 5 rfl) ?_
        refine lv_iconst (v := 0) hx hb dL_law_936 rfl ?_
        refine bw_lald hx hb hK hI 94 (by decide) rfl dL_law_937 ?_
        refine lv_iload hx hb dL_law_938 (lv_at hl 0 rfl) ?_
        refine lv_i2l hx hb dL_law_940 rfl ?_
        refine W.lcmp hx hb dL_law_941 ?_
        refine lv_if_eq (tgt := 947) hx hb dL_law_942 (by decide) (fun c_942 => ?_) (fun c_942 => ?_)
        · rw [if_pos c_942] at h
          refine W.widen (k := 601024 - 4 * n) (n := 7293034 - 24 * n) (by omega) (by omega) ?_
          exact jL_law_947_w l hfl G cy g b a o bs sl_ xs S hr hlocks hK hZ hX hbl hbA hA9 n h9 d t sl hn hs cs ln rp rn rt z rows asd sm buf bm th_914 od om ow ca bo la pl to rd hh ou_896 x4 (lL_law_23 sl_ xs n) ih _ _ _ h hI (lv_sub hl [2,3,4,5,6] rfl)
        rw [if_neg c_942] at h
        refine lv_iconst (v := 0) hx hb dL_law_945 rfl ?_
        exact bw_none h
      rw [if_neg c_925] at h
      refine lv_iconst (v := 0) hx hb dL_law_928 rfl ?_
      exact bw_none h
    rw [if_neg c_39_13] at h
    by_cases c_39_14 : (v35 &&& 31) = 14
    · rw [if_pos c_39_14] at h
      refine lv_tableIn (tgt := 950) hx hb dL_law_39 (by rw [c_39_14]; decide) (by rw [c_39_14]; decide) (by rw [c_39_14]; rfl) (by decide) ?_
      refine lv_aload_n hx hb dL_law_950 rfl (lv_at hl 1 rfl) ?_
      refine lv_aload_n hx hb dL_law_951 rfl (lv_at hl 0 rfl) ?_
      refine lv_iload hx hb dL_law_952 (lv_at hl 4 rfl) ?_
      refine lv_iconst (v := 1) hx hb dL_law_954 rfl ?_
      refine lv_iadd hx hb dL_law_955 ?_
      obtain ⟨v956, hv, h⟩ := bw_b1_e h
      refine bw_scr hx hb hX hbl hbA hI hv dL_law_956 ?_
      refine lv_aload_n hx hb dL_law_957 rfl (lv_at hl 0 rfl) ?_
      refine lv_iload hx hb dL_law_958 (lv_at hl 4 rfl) ?_
      refine lv_iconst (v := 2) hx hb dL_law_960 rfl ?_
      refine lv_iadd hx hb dL_law_961 ?_
      obtain ⟨v962, hv, h⟩ := bw_b1_e h
      refine bw_scr hx hb hX hbl hbA hI hv dL_law_962 ?_
      refine lv_aload_n hx hb dL_law_963 rfl (lv_at hl 0 rfl) ?_
      refine lv_iload hx hb dL_law_964 (lv_at hl 4 rfl) ?_
      refine lv_iconst (v := 3) hx hb dL_law_966 rfl ?_
      refine lv_iadd hx hb dL_law_967 ?_
      obtain ⟨v968, hv, h⟩ := bw_b1_e h
      refine bw_scr hx hb hX hbl hbA hI hv dL_law_968 ?_
      refine lv_aload_n hx hb dL_law_969 rfl (lv_at hl 3 rfl) ?_
      obtain ⟨r970, ou_970, hc, h⟩ := bw_b2_e h
      refine bw_callH S hK hZ hI (mL_task l hfl G cy g b o d t sl hn hs cs ln rp rn rt v956 v962 v968 ou r970 ou_970 hc) Y_L_task l_L_139 ⟨(Nat.le_of_ble_eq_true rfl), (Nat.le_of_ble_eq_true rfl)⟩ (ws' := (bw_lW cy b a o d t sl hn hs cs ln rp rn rt z rows asd sm buf bm th od om ow ca bo la pl to rd hh ou_970)) (bw_pl_h cy b a o d t sl hn hs cs ln rp rn rt z rows asd sm buf bm th od om ow ca bo la pl to rd hh ou) (bw_pl_h cy b a o d t sl hn hs cs ln rp rn rt z rows asd sm buf bm th od om ow ca bo la pl to rd hh ou_970).symm rfl rfl hl.1 (rest := []) (st1 := [.int r970]) rfl rfl (Nat.le_of_ble_eq_true rfl) dL_law_970 ⟨(by show _ ≤ 601024; omega), (by show _ ≤ 7293034; omega)⟩ (fun H locs hI => ?_)
      refine lv_istore (lv' := [(5, .int r970), (0, .ref bs), (1, .ref (b 8 5)), (2, .ref (a 0)), (3, .ref o), (4, .int x4)]) hx hb dL_law_973 hl (by decide) rfl (fun ls hl => ?_)
      refine lv_aload_n hx hb dL_law_975 rfl (lv_at hl 3 rfl) ?_
      refine lv_aload_n hx hb dL_law_976 rfl (lv_at hl 1 rfl) ?_
      refine lv_iload hx hb dL_law_977 (lv_at hl 5 rfl) ?_
      refine lv_iconst (v := 1) hx hb dL_law_979 rfl ?_
      refine lv_iadd hx hb dL_law_980 ?_
      obtain ⟨v981, hv, h⟩ := bw_b1_e h
      refine bw_scr hx hb hX hbl hbA hI hv dL_law_981 ?_
      refine lv_aload_n hx hb dL_law_982 rfl (lv_at hl 1 rfl) ?_
      refine lv_iload hx hb dL_law_983 (lv_at hl 5 rfl) ?_
      refine lv_iconst (v := 2) hx hb dL_law_985 rfl ?_
      refine lv_iadd hx hb dL_law_986 ?_
      obtain ⟨v987, hv, h⟩ := bw_b1_e h
      refine bw_scr hx hb hX hbl hbA hI hv dL_law_987 ?_
      refine lv_aload_n hx hb dL_law_988 rfl (lv_at hl 1 rfl) ?_
      refine lv_iload hx hb dL_law_989 (lv_at hl 5 rfl) ?_
      refine lv_iconst (v := 3) hx hb dL_law_991 rfl ?_
      refine lv_iadd hx hb dL_law_992 ?_
      obtain ⟨v993, hv, h⟩ := bw_b1_e h
      refine bw_scr hx hb hX hbl hbA hI hv dL_law_993 ?_
      obtain ⟨r994, th_994, hc, h⟩ := bw_b2_e h
      refine bw_callV S hK hZ hI (mX6_task l G cy g a z rows asd sm buf bm th od om ow ca bo la pl to rd hh v981 v987 v993 r994 th_994 hc) Y_X6_task V_X6_task l_L_141 ⟨(Nat.le_of_ble_eq_true rfl), (Nat.le_of_ble_eq_true rfl)⟩ (q0 := 0) rfl rfl rfl (ws' := (bw_lW cy b a o d t sl hn hs cs ln rp rn rt z rows asd sm buf bm th_994 od om ow ca bo la pl to rd hh ou_970)) (bw_pl_m cy b a o d t sl hn hs cs ln rp rn rt z rows asd sm buf bm th od om ow ca bo la pl to rd hh ou_970) (bw_pl_m cy b a o d t sl hn hs cs ln rp rn rt z rows asd sm buf bm th_994 od om ow ca bo la pl to rd hh ou_970).symm rfl rfl hl.1 (rest := []) (st1 := [.int r994]) rfl rfl (Nat.le_of_ble_eq_true rfl) dL_law_994 ⟨(by show _ ≤ 601024; omega), (by show _ ≤ 7293034; omega)⟩ (fun H locs hI => ?_)
      refine lv_istore (lv' := [(6, .int r994), (5, .int r970), (0, .ref bs), (1, .ref (b 8 5)), (2, .ref (a 0)), (3, .ref o), (4, .int x4)]) hx hb dL_law_997 hl (by decide) rfl (fun ls hl => ?_)
      refine lv_aload_n hx hb dL_law_999 rfl (lv_at hl 4 rfl) ?_
      obtain ⟨r1000, hc, h⟩ := bw_b1_e h
      refine bw_callV S hK hZ hI (mX6_thrown l G cy g a z rows asd sm buf bm th_994 od om ow ca bo la pl to rd hh r1000 hc) Y_X6_thrown V_X6_thrown l_L_92 ⟨(Nat.le_of_ble_eq_true rfl), (Nat.le_of_ble_eq_true rfl)⟩ (q0 := 0) rfl rfl rfl (ws' := (bw_lW cy b a o d t sl hn hs cs ln rp rn rt z rows asd sm buf bm th_994 od om ow ca bo la pl to rd hh ou_970)) (bw_pl_m cy b a o d t sl hn hs cs ln rp rn rt z rows asd sm buf bm th_994 od om ow ca bo la pl to rd hh ou_970) (bw_pl_m cy b a o d t sl hn hs cs ln rp rn rt z rows asd sm buf bm th_994 od om ow ca bo la pl to rd hh ou_970).symm rfl rfl hl.1 (rest := []) (st1 := [.int r1000]) rfl rfl (Nat.le_of_ble_eq_true rfl) dL_law_1000 ⟨(by show _ ≤ 601024; omega), (by show _ ≤ 7293034; omega)⟩ (fun H locs hI => ?_)
      refine lv_iload hx hb dL_law_1003 (lv_at hl 1 rfl) ?_
      refine lv_icmp_eq (tgt := 1010) hx hb dL_law_1005 (by decide) (fun c_1005 => ?_) (fun c_1005 => ?_)
      · rw [if_pos c_1005] at h
        refine lv_iload hx hb dL_law_1010 (lv_at hl 1 rfl) ?_
        refine lv_if_ne (tgt := 1027) hx hb dL_law_1012 (by decide) (fun c_1012 => ?_) (fun c_1012 => ?_)
        · rw [if_neg c_1012] at h
          refine W.widen (k := 601024 - 4 * n) (n := 7293034 - 24 * n) (by omega) (by omega) ?_
          exact jL_law_1027_w l hfl G cy g b a o bs sl_ xs S hr hlocks hK hZ hX hbl hbA hA9 n h9 d t sl hn hs cs ln rp rn rt z rows asd sm buf bm th_994 od om ow ca bo la pl to rd hh ou_970 x4 (lL_law_23 sl_ xs n) ih _ _ _ h hI (lv_sub hl [2,3,4,5,6] rfl)
        rw [if_pos c_1012] at h
        refine lv_aload_n hx hb dL_law_1015 rfl (lv_at hl 5 rfl) ?_
        refine lv_iconst (v := 0) hx hb dL_law_1016 rfl ?_
        refine bw_lald hx hb hK hI 94 (by decide) rfl dL_law_1017 ?_
        refine lv_iload hx hb dL_law_1018 (lv_at hl 0 rfl) ?_
        refine lv_i2l hx hb dL_law_1020 rfl ?_
        refine W.lcmp hx hb dL_law_1021 ?_
        refine lv_if_eq (tgt := 1027) hx hb dL_law_1022 (by decide) (fun c_1022 => ?_) (fun c_1022 => ?_)
        · rw [if_pos c_1022] at h
          refine W.widen (k := 601024 - 4 * n) (n := 7293034 - 24 * n) (by omega) (by omega) ?_
          exact jL_law_1027_w l hfl G cy g b a o bs sl_ xs S hr hlocks hK hZ hX hbl hbA hA9 n h9 d t sl hn hs cs ln rp rn rt z rows asd sm buf bm th_994 od om ow ca bo la pl to rd hh ou_970 x4 (lL_law_23 sl_ xs n) ih _ _ _ h hI (lv_sub hl [2,3,4,5,6] rfl)
        rw [if_neg c_1022] at h
        refine lv_iconst (v := 0) hx hb dL_law_1025 rfl ?_
        exact bw_none h
      rw [if_neg c_1005] at h
      refine lv_iconst (v := 0) hx hb dL_law_1008 rfl ?_
      exact bw_none h
    rw [if_neg c_39_14] at h
    by_cases c_39_15 : (v35 &&& 31) = 15
    · rw [if_pos c_39_15] at h
      refine lv_tableIn (tgt := 1030) hx hb dL_law_39 (by rw [c_39_15]; decide) (by rw [c_39_15]; decide) (by rw [c_39_15]; rfl) (by decide) ?_
      refine lv_aload_n hx hb dL_law_1030 rfl (lv_at hl 1 rfl) ?_
      refine lv_aload_n hx hb dL_law_1031 rfl (lv_at hl 0 rfl) ?_
      refine lv_iload hx hb dL_law_1032 (lv_at hl 4 rfl) ?_
      refine lv_iconst (v := 1) hx hb dL_law_1034 rfl ?_
      refine lv_iadd hx hb dL_law_1035 ?_
      obtain ⟨v1036, hv, h⟩ := bw_b1_e h
      refine bw_scr hx hb hX hbl hbA hI hv dL_law_1036 ?_
      refine lv_aload_n hx hb dL_law_1037 rfl (lv_at hl 0 rfl) ?_
      refine lv_iload hx hb dL_law_1038 (lv_at hl 4 rfl) ?_
      refine lv_iconst (v := 2) hx hb dL_law_1040 rfl ?_
      refine lv_iadd hx hb dL_law_1041 ?_
      obtain ⟨v1042, hv, h⟩ := bw_b1_e h
      refine bw_scr hx hb hX hbl hbA hI hv dL_law_1042 ?_
      refine lv_aload_n hx hb dL_law_1043 rfl (lv_at hl 3 rfl) ?_
      obtain ⟨r1044, ou_1044, hc, h⟩ := bw_b2_e h
      refine bw_callH S hK hZ hI (mL_loan l hfl G cy g b o d t sl hn hs cs ln rp rn rt v1036 v1042 ou r1044 ou_1044 hc) Y_L_loan l_L_142 ⟨(Nat.le_of_ble_eq_true rfl), (Nat.le_of_ble_eq_true rfl)⟩ (ws' := (bw_lW cy b a o d t sl hn hs cs ln rp rn rt z rows asd sm buf bm th od om ow ca bo la pl to rd hh ou_1044)) (bw_pl_h cy b a o d t sl hn hs cs ln rp rn rt z rows asd sm buf bm th od om ow ca bo la pl to rd hh ou) (bw_pl_h cy b a o d t sl hn hs cs ln rp rn rt z rows asd sm buf bm th od om ow ca bo la pl to rd hh ou_1044).symm rfl rfl hl.1 (rest := []) (st1 := [.int r1044]) rfl rfl (Nat.le_of_ble_eq_true rfl) dL_law_1044 ⟨(by show _ ≤ 601024; omega), (by show _ ≤ 7293034; omega)⟩ (fun H locs hI => ?_)
      refine lv_istore (lv' := [(5, .int r1044), (0, .ref bs), (1, .ref (b 8 5)), (2, .ref (a 0)), (3, .ref o), (4, .int x4)]) hx hb dL_law_1047 hl (by decide) rfl (fun ls hl => ?_)
      refine lv_aload_n hx hb dL_law_1049 rfl (lv_at hl 3 rfl) ?_
      refine lv_aload_n hx hb dL_law_1050 rfl (lv_at hl 1 rfl) ?_
      refine lv_iload hx hb dL_law_1051 (lv_at hl 5 rfl) ?_
      refine lv_iconst (v := 1) hx hb dL_law_1053 rfl ?_
      refine lv_iadd hx hb dL_law_1054 ?_
      obtain ⟨v1055, hv, h⟩ := bw_b1_e h
      refine bw_scr hx hb hX hbl hbA hI hv dL_law_1055 ?_
      refine lv_aload_n hx hb dL_law_1056 rfl (lv_at hl 1 rfl) ?_
      refine lv_iload hx hb dL_law_1057 (lv_at hl 5 rfl) ?_
      refine lv_iconst (v := 2) hx hb dL_law_1059 rfl ?_
      refine lv_iadd hx hb dL_law_1060 ?_
      obtain ⟨v1061, hv, h⟩ := bw_b1_e h
      refine bw_scr hx hb hX hbl hbA hI hv dL_law_1061 ?_
      obtain ⟨r1062, th_1062, hc, h⟩ := bw_b2_e h
      refine bw_callV S hK hZ hI (mX6_loan l G cy g a z rows asd sm buf bm th od om ow ca bo la pl to rd hh v1055 v1061 r1062 th_1062 hc) Y_X6_loan V_X6_loan l_L_144 ⟨(Nat.le_of_ble_eq_true rfl), (Nat.le_of_ble_eq_true rfl)⟩ (q0 := 0) rfl rfl rfl (ws' := (bw_lW cy b a o d t sl hn hs cs ln rp rn rt z rows asd sm buf bm th_1062 od om ow ca bo la pl to rd hh ou_1044)) (bw_pl_m cy b a o d t sl hn hs cs ln rp rn rt z rows asd sm buf bm th od om ow ca bo la pl to rd hh ou_1044) (bw_pl_m cy b a o d t sl hn hs cs ln rp rn rt z rows asd sm buf bm th_1062 od om ow ca bo la pl to rd hh ou_1044).symm rfl rfl hl.1 (rest := []) (st1 := [.int r1062]) rfl rfl (Nat.le_of_ble_eq_true rfl) dL_law_1062 ⟨(by show _ ≤ 601024; omega), (by show _ ≤ 7293034; omega)⟩ (fun H locs hI => ?_)
      refine lv_istore (lv' := [(6, .int r1062), (5, .int r1044), (0, .ref bs), (1, .ref (b 8 5)), (2, .ref (a 0)), (3, .ref o), (4, .int x4)]) hx hb dL_law_1065 hl (by decide) rfl (fun ls hl => ?_)
      refine lv_aload_n hx hb dL_law_1067 rfl (lv_at hl 4 rfl) ?_
      obtain ⟨r1068, hc, h⟩ := bw_b1_e h
      refine bw_callV S hK hZ hI (mX6_thrown l G cy g a z rows asd sm buf bm th_1062 od om ow ca bo la pl to rd hh r1068 hc) Y_X6_thrown V_X6_thrown l_L_92 ⟨(Nat.le_of_ble_eq_true rfl), (Nat.le_of_ble_eq_true rfl)⟩ (q0 := 0) rfl rfl rfl (ws' := (bw_lW cy b a o d t sl hn hs cs ln rp rn rt z rows asd sm buf bm th_1062 od om ow ca bo la pl to rd hh ou_1044)) (bw_pl_m cy b a o d t sl hn hs cs ln rp rn rt z rows asd sm buf bm th_1062 od om ow ca bo la pl to rd hh ou_1044) (bw_pl_m cy b a o d t sl hn hs cs ln rp rn rt z rows asd sm buf bm th_1062 od om ow ca bo la pl to rd hh ou_1044).symm rfl rfl hl.1 (rest := []) (st1 := [.int r1068]) rfl rfl (Nat.le_of_ble_eq_true rfl) dL_law_1068 ⟨(by show _ ≤ 601024; omega), (by show _ ≤ 7293034; omega)⟩ (fun H locs hI => ?_)
      refine lv_iload hx hb dL_law_1071 (lv_at hl 1 rfl) ?_
      refine lv_icmp_eq (tgt := 1078) hx hb dL_law_1073 (by decide) (fun c_1073 => ?_) (fun c_1073 => ?_)
      · rw [if_pos c_1073] at h
        refine lv_iload hx hb dL_law_1078 (lv_at hl 1 rfl) ?_
        refine lv_if_ne (tgt := 1095) hx hb dL_law_1080 (by decide) (fun c_1080 => ?_) (fun c_1080 => ?_)
        · rw [if_neg c_1080] at h
          refine W.widen (k := 601024 - 4 * n) (n := 7293034 - 24 * n) (by omega) (by omega) ?_
          exact jL_law_1095_w l hfl G cy g b a o bs sl_ xs S hr hlocks hK hZ hX hbl hbA hA9 n h9 d t sl hn hs cs ln rp rn rt z rows asd sm buf bm th_1062 od om ow ca bo la pl to rd hh ou_1044 x4 (lL_law_23 sl_ xs n) ih _ _ _ h hI (lv_sub hl [2,3,4,5,6] rfl)
        rw [if_pos c_1080] at h
        refine lv_aload_n hx hb dL_law_1083 rfl (lv_at hl 5 rfl) ?_
        refine lv_iconst (v := 0) hx hb dL_law_1084 rfl ?_
        refine bw_lald hx hb hK hI 94 (by decide) rfl dL_law_1085 ?_
        refine lv_iload hx hb dL_law_1086 (lv_at hl 0 rfl) ?_
        refine lv_i2l hx hb dL_law_1088 rfl ?_
        refine W.lcmp hx hb dL_law_1089 ?_
        refine lv_if_eq (tgt := 1095) hx hb dL_law_1090 (by decide) (fun c_1090 => ?_) (fun c_1090 => ?_)
        · rw [if_pos c_1090] at h
          refine W.widen (k := 601024 - 4 * n) (n := 7293034 - 24 * n) (by omega) (by omega) ?_
          exact jL_law_1095_w l hfl G cy g b a o bs sl_ xs S hr hlocks hK hZ hX hbl hbA hA9 n h9 d t sl hn hs cs ln rp rn rt z rows asd sm buf bm th_1062 od om ow ca bo la pl to rd hh ou_1044 x4 (lL_law_23 sl_ xs n) ih _ _ _ h hI (lv_sub hl [2,3,4,5,6] rfl)
        rw [if_neg c_1090] at h
        refine lv_iconst (v := 0) hx hb dL_law_1093 rfl ?_
        exact bw_none h
      rw [if_neg c_1073] at h
      refine lv_iconst (v := 0) hx hb dL_law_1076 rfl ?_
      exact bw_none h
    rw [if_neg c_39_15] at h
    by_cases c_39_16 : (v35 &&& 31) = 16
    · rw [if_pos c_39_16] at h
      refine lv_tableIn (tgt := 1098) hx hb dL_law_39 (by rw [c_39_16]; decide) (by rw [c_39_16]; decide) (by rw [c_39_16]; rfl) (by decide) ?_
      refine lv_aload_n hx hb dL_law_1098 rfl (lv_at hl 1 rfl) ?_
      refine lv_aload_n hx hb dL_law_1099 rfl (lv_at hl 0 rfl) ?_
      refine lv_iload hx hb dL_law_1100 (lv_at hl 4 rfl) ?_
      refine lv_iconst (v := 1) hx hb dL_law_1102 rfl ?_
      refine lv_iadd hx hb dL_law_1103 ?_
      obtain ⟨v1104, hv, h⟩ := bw_b1_e h
      refine bw_scr hx hb hX hbl hbA hI hv dL_law_1104 ?_
      refine lv_aload_n hx hb dL_law_1105 rfl (lv_at hl 0 rfl) ?_
      refine lv_iload hx hb dL_law_1106 (lv_at hl 4 rfl) ?_
      refine lv_iconst (v := 2) hx hb dL_law_1108 rfl ?_
      refine lv_iadd hx hb dL_law_1109 ?_
      obtain ⟨v1110, hv, h⟩ := bw_b1_e h
      refine bw_scr hx hb hX hbl hbA hI hv dL_law_1110 ?_
      refine lv_aload_n hx hb dL_law_1111 rfl (lv_at hl 3 rfl) ?_
      obtain ⟨r1112, ou_1112, hc, h⟩ := bw_b2_e h
      refine bw_callH S hK hZ hI (mL_owed l hfl G cy g b o d t sl hn hs cs ln rp rn rt v1104 v1110 ou r1112 ou_1112 hc) Y_L_owed l_L_145 ⟨(Nat.le_of_ble_eq_true rfl), (Nat.le_of_ble_eq_true rfl)⟩ (ws' := (bw_lW cy b a o d t sl hn hs cs ln rp rn rt z rows asd sm buf bm th od om ow ca bo la pl to rd hh ou_1112)) (bw_pl_h cy b a o d t sl hn hs cs ln rp rn rt z rows asd sm buf bm th od om ow ca bo la pl to rd hh ou) (bw_pl_h cy b a o d t sl hn hs cs ln rp rn rt z rows asd sm buf bm th od om ow ca bo la pl to rd hh ou_1112).symm rfl rfl hl.1 (rest := []) (st1 := [.int r1112]) rfl rfl (Nat.le_of_ble_eq_true rfl) dL_law_1112 ⟨(by show _ ≤ 601024; omega), (by show _ ≤ 7293034; omega)⟩ (fun H locs hI => ?_)
      refine lv_istore (lv' := [(5, .int r1112), (0, .ref bs), (1, .ref (b 8 5)), (2, .ref (a 0)), (3, .ref o), (4, .int x4)]) hx hb dL_law_1115 hl (by decide) rfl (fun ls hl => ?_)
      refine lv_aload_n hx hb dL_law_1117 rfl (lv_at hl 3 rfl) ?_
      refine lv_aload_n hx hb dL_law_1118 rfl (lv_at hl 1 rfl) ?_
      refine lv_iload hx hb dL_law_1119 (lv_at hl 5 rfl) ?_
      refine lv_iconst (v := 1) hx hb dL_law_1121 rfl ?_
      refine lv_iadd hx hb dL_law_1122 ?_
      obtain ⟨v1123, hv, h⟩ := bw_b1_e h
      refine bw_scr hx hb hX hbl hbA hI hv dL_law_1123 ?_
      refine lv_aload_n hx hb dL_law_1124 rfl (lv_at hl 1 rfl) ?_
      refine lv_iload hx hb dL_law_1125 (lv_at hl 5 rfl) ?_
      refine lv_iconst (v := 2) hx hb dL_law_1127 rfl ?_
      refine lv_iadd hx hb dL_law_1128 ?_
      obtain ⟨v1129, hv, h⟩ := bw_b1_e h
      refine bw_scr hx hb hX hbl hbA hI hv dL_law_1129 ?_
      obtain ⟨r1130, th_1130, hc, h⟩ := bw_b2_e h
      refine bw_callV S hK hZ hI (mX6_owed l G cy g a z rows asd sm buf bm th od om ow ca bo la pl to rd hh v1123 v1129 r1130 th_1130 hc) Y_X6_owed V_X6_owed l_L_147 ⟨(Nat.le_of_ble_eq_true rfl), (Nat.le_of_ble_eq_true rfl)⟩ (q0 := 0) rfl rfl rfl (ws' := (bw_lW cy b a o d t sl hn hs cs ln rp rn rt z rows asd sm buf bm th_1130 od om ow ca bo la pl to rd hh ou_1112)) (bw_pl_m cy b a o d t sl hn hs cs ln rp rn rt z rows asd sm buf bm th od om ow ca bo la pl to rd hh ou_1112) (bw_pl_m cy b a o d t sl hn hs cs ln rp rn rt z rows asd sm buf bm th_1130 od om ow ca bo la pl to rd hh ou_1112).symm rfl rfl hl.1 (rest := []) (st1 := [.int r1130]) rfl rfl (Nat.le_of_ble_eq_true rfl) dL_law_1130 ⟨(by show _ ≤ 601024; omega), (by show _ ≤ 7293034; omega)⟩ (fun H locs hI => ?_)
      refine lv_istore (lv' := [(6, .int r1130), (5, .int r1112), (0, .ref bs), (1, .ref (b 8 5)), (2, .ref (a 0)), (3, .ref o), (4, .int x4)]) hx hb dL_law_1133 hl (by decide) rfl (fun ls hl => ?_)
      refine lv_aload_n hx hb dL_law_1135 rfl (lv_at hl 4 rfl) ?_
      obtain ⟨r1136, hc, h⟩ := bw_b1_e h
      refine bw_callV S hK hZ hI (mX6_thrown l G cy g a z rows asd sm buf bm th_1130 od om ow ca bo la pl to rd hh r1136 hc) Y_X6_thrown V_X6_thrown l_L_92 ⟨(Nat.le_of_ble_eq_true rfl), (Nat.le_of_ble_eq_true rfl)⟩ (q0 := 0) rfl rfl rfl (ws' := (bw_lW cy b a o d t sl hn hs cs ln rp rn rt z rows asd sm buf bm th_1130 od om ow ca bo la pl to rd hh ou_1112)) (bw_pl_m cy b a o d t sl hn hs cs ln rp rn rt z rows asd sm buf bm th_1130 od om ow ca bo la pl to rd hh ou_1112) (bw_pl_m cy b a o d t sl hn hs cs ln rp rn rt z rows asd sm buf bm th_1130 od om ow ca bo la pl to rd hh ou_1112).symm rfl rfl hl.1 (rest := []) (st1 := [.int r1136]) rfl rfl (Nat.le_of_ble_eq_true rfl) dL_law_1136 ⟨(by show _ ≤ 601024; omega), (by show _ ≤ 7293034; omega)⟩ (fun H locs hI => ?_)
      refine lv_iload hx hb dL_law_1139 (lv_at hl 1 rfl) ?_
      refine lv_icmp_eq (tgt := 1146) hx hb dL_law_1141 (by decide) (fun c_1141 => ?_) (fun c_1141 => ?_)
      · rw [if_pos c_1141] at h
        refine lv_iload hx hb dL_law_1146 (lv_at hl 1 rfl) ?_
        refine lv_if_ne (tgt := 1163) hx hb dL_law_1148 (by decide) (fun c_1148 => ?_) (fun c_1148 => ?_)
        · rw [if_neg c_1148] at h
          refine W.widen (k := 601024 - 4 * n) (n := 7293034 - 24 * n) (by omega) (by omega) ?_
          exact jL_law_1163_w l hfl G cy g b a o bs sl_ xs S hr hlocks hK hZ hX hbl hbA hA9 n h9 d t sl hn hs cs ln rp rn rt z rows asd sm buf bm th_1130 od om ow ca bo la pl to rd hh ou_1112 x4 (lL_law_23 sl_ xs n) ih _ _ _ h hI (lv_sub hl [2,3,4,5,6] rfl)
        rw [if_pos c_1148] at h
        refine lv_aload_n hx hb dL_law_1151 rfl (lv_at hl 5 rfl) ?_
        refine lv_iconst (v := 0) hx hb dL_law_1152 rfl ?_
        refine bw_lald hx hb hK hI 94 (by decide) rfl dL_law_1153 ?_
        refine lv_iload hx hb dL_law_1154 (lv_at hl 0 rfl) ?_
        refine lv_i2l hx hb dL_law_1156 rfl ?_
        refine W.lcmp hx hb dL_law_1157 ?_
        refine lv_if_eq (tgt := 1163) hx hb dL_law_1158 (by decide) (fun c_1158 => ?_) (fun c_1158 => ?_)
        · rw [if_pos c_1158] at h
          refine W.widen (k := 601024 - 4 * n) (n := 7293034 - 24 * n) (by omega) (by omega) ?_
          exact jL_law_1163_w l hfl G cy g b a o bs sl_ xs S hr hlocks hK hZ hX hbl hbA hA9 n h9 d t sl hn hs cs ln rp rn rt z rows asd sm buf bm th_1130 od om ow ca bo la pl to rd hh ou_1112 x4 (lL_law_23 sl_ xs n) ih _ _ _ h hI (lv_sub hl [2,3,4,5,6] rfl)
        rw [if_neg c_1158] at h
        refine lv_iconst (v := 0) hx hb dL_law_1161 rfl ?_
        exact bw_none h
      rw [if_neg c_1141] at h
      refine lv_iconst (v := 0) hx hb dL_law_1144 rfl ?_
      exact bw_none h
    rw [if_neg c_39_16] at h
    by_cases c_39_17 : (v35 &&& 31) = 17
    · rw [if_pos c_39_17] at h
      refine lv_tableIn (tgt := 1166) hx hb dL_law_39 (by rw [c_39_17]; decide) (by rw [c_39_17]; decide) (by rw [c_39_17]; rfl) (by decide) ?_
      refine lv_aload_n hx hb dL_law_1166 rfl (lv_at hl 1 rfl) ?_
      refine lv_aload_n hx hb dL_law_1167 rfl (lv_at hl 0 rfl) ?_
      refine lv_iload hx hb dL_law_1168 (lv_at hl 4 rfl) ?_
      refine lv_iconst (v := 1) hx hb dL_law_1170 rfl ?_
      refine lv_iadd hx hb dL_law_1171 ?_
      obtain ⟨v1172, hv, h⟩ := bw_b1_e h
      refine bw_scr hx hb hX hbl hbA hI hv dL_law_1172 ?_
      refine lv_aload_n hx hb dL_law_1173 rfl (lv_at hl 0 rfl) ?_
      refine lv_iload hx hb dL_law_1174 (lv_at hl 4 rfl) ?_
      refine lv_iconst (v := 2) hx hb dL_law_1176 rfl ?_
      refine lv_iadd hx hb dL_law_1177 ?_
      obtain ⟨v1178, hv, h⟩ := bw_b1_e h
      refine bw_scr hx hb hX hbl hbA hI hv dL_law_1178 ?_
      refine lv_aload_n hx hb dL_law_1179 rfl (lv_at hl 3 rfl) ?_
      obtain ⟨r1180, d_1180, ou_1180, hc, h⟩ := bw_b3_e h
      refine bw_callH S hK hZ hI (mL_lender l hfl G cy g b o d t sl hn hs cs ln rp rn rt v1172 v1178 ou r1180 d_1180 ou_1180 hc) Y_L_lender l_L_148 ⟨(Nat.le_of_ble_eq_true rfl), (Nat.le_of_ble_eq_true rfl)⟩ (ws' := (bw_lW cy b a o d_1180 t sl hn hs cs ln rp rn rt z rows asd sm buf bm th od om ow ca bo la pl to rd hh ou_1180)) (bw_pl_h cy b a o d t sl hn hs cs ln rp rn rt z rows asd sm buf bm th od om ow ca bo la pl to rd hh ou) (bw_pl_h cy b a o d_1180 t sl hn hs cs ln rp rn rt z rows asd sm buf bm th od om ow ca bo la pl to rd hh ou_1180).symm rfl rfl hl.1 (rest := []) (st1 := [.int r1180]) rfl rfl (Nat.le_of_ble_eq_true rfl) dL_law_1180 ⟨(by show _ ≤ 601024; omega), (by show _ ≤ 7293034; omega)⟩ (fun H locs hI => ?_)
      refine lv_istore (lv' := [(5, .int r1180), (0, .ref bs), (1, .ref (b 8 5)), (2, .ref (a 0)), (3, .ref o), (4, .int x4)]) hx hb dL_law_1183 hl (by decide) rfl (fun ls hl => ?_)
      refine lv_aload_n hx hb dL_law_1185 rfl (lv_at hl 3 rfl) ?_
      refine lv_aload_n hx hb dL_law_1186 rfl (lv_at hl 1 rfl) ?_
      refine lv_iload hx hb dL_law_1187 (lv_at hl 5 rfl) ?_
      refine lv_iconst (v := 1) hx hb dL_law_1189 rfl ?_
      refine lv_iadd hx hb dL_law_1190 ?_
      obtain ⟨v1191, hv, h⟩ := bw_b1_e h
      refine bw_scr hx hb hX hbl hbA hI hv dL_law_1191 ?_
      refine lv_aload_n hx hb dL_law_1192 rfl (lv_at hl 1 rfl) ?_
      refine lv_iload hx hb dL_law_1193 (lv_at hl 5 rfl) ?_
      refine lv_iconst (v := 2) hx hb dL_law_1195 rfl ?_
      refine lv_iadd hx hb dL_law_1196 ?_
      obtain ⟨v1197, hv, h⟩ := bw_b1_e h
      refine bw_scr hx hb hX hbl hbA hI hv dL_law_1197 ?_
      obtain ⟨r1198, th_1198, od_1198, om_1198, hc, h⟩ := bw_b4_e h
      refine bw_callV S hK hZ hI (mX6_lender l G cy g a z rows asd sm buf bm th od om ow ca bo la pl to rd hh v1191 v1197 r1198 th_1198 od_1198 om_1198 hc) Y_X6_lender V_X6_lender l_L_150 ⟨(Nat.le_of_ble_eq_true rfl), (Nat.le_of_ble_eq_true rfl)⟩ (q0 := 0) rfl rfl rfl (ws' := (bw_lW cy b a o d_1180 t sl hn hs cs ln rp rn rt z rows asd sm buf bm th_1198 od_1198 om_1198 ow ca bo la pl to rd hh ou_1180)) (bw_pl_m cy b a o d_1180 t sl hn hs cs ln rp rn rt z rows asd sm buf bm th od om ow ca bo la pl to rd hh ou_1180) (bw_pl_m cy b a o d_1180 t sl hn hs cs ln rp rn rt z rows asd sm buf bm th_1198 od_1198 om_1198 ow ca bo la pl to rd hh ou_1180).symm rfl rfl hl.1 (rest := []) (st1 := [.int r1198]) rfl rfl (Nat.le_of_ble_eq_true rfl) dL_law_1198 ⟨(by show _ ≤ 601024; omega), (by show _ ≤ 7293034; omega)⟩ (fun H locs hI => ?_)
      refine lv_istore (lv' := [(6, .int r1198), (5, .int r1180), (0, .ref bs), (1, .ref (b 8 5)), (2, .ref (a 0)), (3, .ref o), (4, .int x4)]) hx hb dL_law_1201 hl (by decide) rfl (fun ls hl => ?_)
      refine lv_aload_n hx hb dL_law_1203 rfl (lv_at hl 4 rfl) ?_
      obtain ⟨r1204, hc, h⟩ := bw_b1_e h
      refine bw_callV S hK hZ hI (mX6_thrown l G cy g a z rows asd sm buf bm th_1198 od_1198 om_1198 ow ca bo la pl to rd hh r1204 hc) Y_X6_thrown V_X6_thrown l_L_92 ⟨(Nat.le_of_ble_eq_true rfl), (Nat.le_of_ble_eq_true rfl)⟩ (q0 := 0) rfl rfl rfl (ws' := (bw_lW cy b a o d_1180 t sl hn hs cs ln rp rn rt z rows asd sm buf bm th_1198 od_1198 om_1198 ow ca bo la pl to rd hh ou_1180)) (bw_pl_m cy b a o d_1180 t sl hn hs cs ln rp rn rt z rows asd sm buf bm th_1198 od_1198 om_1198 ow ca bo la pl to rd hh ou_1180) (bw_pl_m cy b a o d_1180 t sl hn hs cs ln rp rn rt z rows asd sm buf bm th_1198 od_1198 om_1198 ow ca bo la pl to rd hh ou_1180).symm rfl rfl hl.1 (rest := []) (st1 := [.int r1204]) rfl rfl (Nat.le_of_ble_eq_true rfl) dL_law_1204 ⟨(by show _ ≤ 601024; omega), (by show _ ≤ 7293034; omega)⟩ (fun H locs hI => ?_)
      refine lv_iload hx hb dL_law_1207 (lv_at hl 1 rfl) ?_
      refine lv_icmp_eq (tgt := 1214) hx hb dL_law_1209 (by decide) (fun c_1209 => ?_) (fun c_1209 => ?_)
      · rw [if_pos c_1209] at h
        refine lv_iload hx hb dL_law_1214 (lv_at hl 1 rfl) ?_
        refine lv_if_ne (tgt := 1231) hx hb dL_law_1216 (by decide) (fun c_1216 => ?_) (fun c_1216 => ?_)
        · rw [if_neg c_1216] at h
          refine W.widen (k := 601024 - 4 * n) (n := 7293034 - 24 * n) (by omega) (by omega) ?_
          exact jL_law_1231_w l hfl G cy g b a o bs sl_ xs S hr hlocks hK hZ hX hbl hbA hA9 n h9 d_1180 t sl hn hs cs ln rp rn rt z rows asd sm buf bm th_1198 od_1198 om_1198 ow ca bo la pl to rd hh ou_1180 x4 (lL_law_23 sl_ xs n) ih _ _ _ h hI (lv_sub hl [2,3,4,5,6] rfl)
        rw [if_pos c_1216] at h
        refine lv_aload_n hx hb dL_law_1219 rfl (lv_at hl 5 rfl) ?_
        refine lv_iconst (v := 0) hx hb dL_law_1220 rfl ?_
        refine bw_lald hx hb hK hI 94 (by decide) rfl dL_law_1221 ?_
        refine lv_iload hx hb dL_law_1222 (lv_at hl 0 rfl) ?_
        refine lv_i2l hx hb dL_law_1224 rfl ?_
        refine W.lcmp hx hb dL_law_1225 ?_
        refine lv_if_eq (tgt := 1231) hx hb dL_law_1226 (by decide) (fun c_1226 => ?_) (fun c_1226 => ?_)
        · rw [if_pos c_1226] at h
          refine W.widen (k := 601024 - 4 * n) (n := 7293034 - 24 * n) (by omega) (by omega) ?_
          exact jL_law_1231_w l hfl G cy g b a o bs sl_ xs S hr hlocks hK hZ hX hbl hbA hA9 n h9 d_1180 t sl hn hs cs ln rp rn rt z rows asd sm buf bm th_1198 od_1198 om_1198 ow ca bo la pl to rd hh ou_1180 x4 (lL_law_23 sl_ xs n) ih _ _ _ h hI (lv_sub hl [2,3,4,5,6] rfl)
        rw [if_neg c_1226] at h
        refine lv_iconst (v := 0) hx hb dL_law_1229 rfl ?_
        exact bw_none h
      rw [if_neg c_1209] at h
      refine lv_iconst (v := 0) hx hb dL_law_1212 rfl ?_
      exact bw_none h
    rw [if_neg c_39_17] at h
    by_cases c_39_18 : (v35 &&& 31) = 18
    · rw [if_pos c_39_18] at h
      refine lv_tableIn (tgt := 1234) hx hb dL_law_39 (by rw [c_39_18]; decide) (by rw [c_39_18]; decide) (by rw [c_39_18]; rfl) (by decide) ?_
      refine lv_aload_n hx hb dL_law_1234 rfl (lv_at hl 1 rfl) ?_
      refine lv_aload_n hx hb dL_law_1235 rfl (lv_at hl 0 rfl) ?_
      refine lv_iload hx hb dL_law_1236 (lv_at hl 4 rfl) ?_
      refine lv_iconst (v := 1) hx hb dL_law_1238 rfl ?_
      refine lv_iadd hx hb dL_law_1239 ?_
      obtain ⟨v1240, hv, h⟩ := bw_b1_e h
      refine bw_scr hx hb hX hbl hbA hI hv dL_law_1240 ?_
      refine lv_aload_n hx hb dL_law_1241 rfl (lv_at hl 3 rfl) ?_
      obtain ⟨r1242, ou_1242, hc, h⟩ := bw_b2_e h
      refine bw_callH S hK hZ hI (mL_count l hfl G cy g b o d t sl hn hs cs ln rp rn rt v1240 ou r1242 ou_1242 hc) Y_L_count l_L_151 ⟨(Nat.le_of_ble_eq_true rfl), (Nat.le_of_ble_eq_true rfl)⟩ (ws' := (bw_lW cy b a o d t sl hn hs cs ln rp rn rt z rows asd sm buf bm th od om ow ca bo la pl to rd hh ou_1242)) (bw_pl_h cy b a o d t sl hn hs cs ln rp rn rt z rows asd sm buf bm th od om ow ca bo la pl to rd hh ou) (bw_pl_h cy b a o d t sl hn hs cs ln rp rn rt z rows asd sm buf bm th od om ow ca bo la pl to rd hh ou_1242).symm rfl rfl hl.1 (rest := []) (st1 := [.int r1242]) rfl rfl (Nat.le_of_ble_eq_true rfl) dL_law_1242 ⟨(by show _ ≤ 601024; omega), (by show _ ≤ 7293034; omega)⟩ (fun H locs hI => ?_)
      refine lv_istore (lv' := [(5, .int r1242), (0, .ref bs), (1, .ref (b 8 5)), (2, .ref (a 0)), (3, .ref o), (4, .int x4)]) hx hb dL_law_1245 hl (by decide) rfl (fun ls hl => ?_)
      refine lv_aload_n hx hb dL_law_1247 rfl (lv_at hl 3 rfl) ?_
      refine lv_aload_n hx hb dL_law_1248 rfl (lv_at hl 1 rfl) ?_
      refine lv_iload hx hb dL_law_1249 (lv_at hl 5 rfl) ?_
      refine lv_iconst (v := 1) hx hb dL_law_1251 rfl ?_
      refine lv_iadd hx hb dL_law_1252 ?_
      obtain ⟨v1253, hv, h⟩ := bw_b1_e h
      refine bw_scr hx hb hX hbl hbA hI hv dL_law_1253 ?_
      obtain ⟨r1254, th_1254, hc, h⟩ := bw_b2_e h
      refine bw_callV S hK hZ hI (mX6_count l G cy g a z rows asd sm buf bm th od om ow ca bo la pl to rd hh v1253 r1254 th_1254 hc) Y_X6_count V_X6_count l_L_153 ⟨(Nat.le_of_ble_eq_true rfl), (Nat.le_of_ble_eq_true rfl)⟩ (q0 := 0) rfl rfl rfl (ws' := (bw_lW cy b a o d t sl hn hs cs ln rp rn rt z rows asd sm buf bm th_1254 od om ow ca bo la pl to rd hh ou_1242)) (bw_pl_m cy b a o d t sl hn hs cs ln rp rn rt z rows asd sm buf bm th od om ow ca bo la pl to rd hh ou_1242) (bw_pl_m cy b a o d t sl hn hs cs ln rp rn rt z rows asd sm buf bm th_1254 od om ow ca bo la pl to rd hh ou_1242).symm rfl rfl hl.1 (rest := []) (st1 := [.int r1254]) rfl rfl (Nat.le_of_ble_eq_true rfl) dL_law_1254 ⟨(by show _ ≤ 601024; omega), (by show _ ≤ 7293034; omega)⟩ (fun H locs hI => ?_)
      refine lv_istore (lv' := [(6, .int r1254), (5, .int r1242), (0, .ref bs), (1, .ref (b 8 5)), (2, .ref (a 0)), (3, .ref o), (4, .int x4)]) hx hb dL_law_1257 hl (by decide) rfl (fun ls hl => ?_)
      refine lv_aload_n hx hb dL_law_1259 rfl (lv_at hl 4 rfl) ?_
      obtain ⟨r1260, hc, h⟩ := bw_b1_e h
      refine bw_callV S hK hZ hI (mX6_thrown l G cy g a z rows asd sm buf bm th_1254 od om ow ca bo la pl to rd hh r1260 hc) Y_X6_thrown V_X6_thrown l_L_92 ⟨(Nat.le_of_ble_eq_true rfl), (Nat.le_of_ble_eq_true rfl)⟩ (q0 := 0) rfl rfl rfl (ws' := (bw_lW cy b a o d t sl hn hs cs ln rp rn rt z rows asd sm buf bm th_1254 od om ow ca bo la pl to rd hh ou_1242)) (bw_pl_m cy b a o d t sl hn hs cs ln rp rn rt z rows asd sm buf bm th_1254 od om ow ca bo la pl to rd hh ou_1242) (bw_pl_m cy b a o d t sl hn hs cs ln rp rn rt z rows asd sm buf bm th_1254 od om ow ca bo la pl to rd hh ou_1242).symm rfl rfl hl.1 (rest := []) (st1 := [.int r1260]) rfl rfl (Nat.le_of_ble_eq_true rfl) dL_law_1260 ⟨(by show _ ≤ 601024; omega), (by show _ ≤ 7293034; omega)⟩ (fun H locs hI => ?_)
      refine lv_iload hx hb dL_law_1263 (lv_at hl 1 rfl) ?_
      refine lv_icmp_eq (tgt := 1270) hx hb dL_law_1265 (by decide) (fun c_1265 => ?_) (fun c_1265 => ?_)
      · rw [if_pos c_1265] at h
        refine lv_iload hx hb dL_law_1270 (lv_at hl 1 rfl) ?_
        refine lv_if_ne (tgt := 1287) hx hb dL_law_1272 (by decide) (fun c_1272 => ?_) (fun c_1272 => ?_)
        · rw [if_neg c_1272] at h
          refine W.widen (k := 601024 - 4 * n) (n := 7293034 - 24 * n) (by omega) (by omega) ?_
          exact jL_law_1287_w l hfl G cy g b a o bs sl_ xs S hr hlocks hK hZ hX hbl hbA hA9 n h9 d t sl hn hs cs ln rp rn rt z rows asd sm buf bm th_1254 od om ow ca bo la pl to rd hh ou_1242 x4 (lL_law_23 sl_ xs n) ih _ _ _ h hI (lv_sub hl [2,3,4,5,6] rfl)
        rw [if_pos c_1272] at h
        refine lv_aload_n hx hb dL_law_1275 rfl (lv_at hl 5 rfl) ?_
        refine lv_iconst (v := 0) hx hb dL_law_1276 rfl ?_
        refine bw_lald hx hb hK hI 94 (by decide) rfl dL_law_1277 ?_
        refine lv_iload hx hb dL_law_1278 (lv_at hl 0 rfl) ?_
        refine lv_i2l hx hb dL_law_1280 rfl ?_
        refine W.lcmp hx hb dL_law_1281 ?_
        refine lv_if_eq (tgt := 1287) hx hb dL_law_1282 (by decide) (fun c_1282 => ?_) (fun c_1282 => ?_)
        · rw [if_pos c_1282] at h
          refine W.widen (k := 601024 - 4 * n) (n := 7293034 - 24 * n) (by omega) (by omega) ?_
          exact jL_law_1287_w l hfl G cy g b a o bs sl_ xs S hr hlocks hK hZ hX hbl hbA hA9 n h9 d t sl hn hs cs ln rp rn rt z rows asd sm buf bm th_1254 od om ow ca bo la pl to rd hh ou_1242 x4 (lL_law_23 sl_ xs n) ih _ _ _ h hI (lv_sub hl [2,3,4,5,6] rfl)
        rw [if_neg c_1282] at h
        refine lv_iconst (v := 0) hx hb dL_law_1285 rfl ?_
        exact bw_none h
      rw [if_neg c_1265] at h
      refine lv_iconst (v := 0) hx hb dL_law_1268 rfl ?_
      exact bw_none h
    rw [if_neg c_39_18] at h
    by_cases c_39_19 : (v35 &&& 31) = 19
    · rw [if_pos c_39_19] at h
      refine lv_tableIn (tgt := 1290) hx hb dL_law_39 (by rw [c_39_19]; decide) (by rw [c_39_19]; decide) (by rw [c_39_19]; rfl) (by decide) ?_
      refine lv_aload_n hx hb dL_law_1290 rfl (lv_at hl 1 rfl) ?_
      refine lv_aload_n hx hb dL_law_1291 rfl (lv_at hl 0 rfl) ?_
      refine lv_iload hx hb dL_law_1292 (lv_at hl 4 rfl) ?_
      refine lv_iconst (v := 1) hx hb dL_law_1294 rfl ?_
      refine lv_iadd hx hb dL_law_1295 ?_
      obtain ⟨v1296, hv, h⟩ := bw_b1_e h
      refine bw_scr hx hb hX hbl hbA hI hv dL_law_1296 ?_
      refine lv_aload_n hx hb dL_law_1297 rfl (lv_at hl 3 rfl) ?_
      obtain ⟨r1298, ou_1298, hc, h⟩ := bw_b2_e h
      refine bw_callH S hK hZ hI (mL_setting l hfl G cy g b o d t sl hn hs cs ln rp rn rt v1296 ou r1298 ou_1298 hc) Y_L_setting l_L_154 ⟨(Nat.le_of_ble_eq_true rfl), (Nat.le_of_ble_eq_true rfl)⟩ (ws' := (bw_lW cy b a o d t sl hn hs cs ln rp rn rt z rows asd sm buf bm th od om ow ca bo la pl to rd hh ou_1298)) (bw_pl_h cy b a o d t sl hn hs cs ln rp rn rt z rows asd sm buf bm th od om ow ca bo la pl to rd hh ou) (bw_pl_h cy b a o d t sl hn hs cs ln rp rn rt z rows asd sm buf bm th od om ow ca bo la pl to rd hh ou_1298).symm rfl rfl hl.1 (rest := []) (st1 := [.int r1298]) rfl rfl (Nat.le_of_ble_eq_true rfl) dL_law_1298 ⟨(by show _ ≤ 601024; omega), (by show _ ≤ 7293034; omega)⟩ (fun H locs hI => ?_)
      refine lv_istore (lv' := [(5, .int r1298), (0, .ref bs), (1, .ref (b 8 5)), (2, .ref (a 0)), (3, .ref o), (4, .int x4)]) hx hb dL_law_1301 hl (by decide) rfl (fun ls hl => ?_)
      refine lv_aload_n hx hb dL_law_1303 rfl (lv_at hl 3 rfl) ?_
      refine lv_aload_n hx hb dL_law_1304 rfl (lv_at hl 1 rfl) ?_
      refine lv_iload hx hb dL_law_1305 (lv_at hl 5 rfl) ?_
      refine lv_iconst (v := 1) hx hb dL_law_1307 rfl ?_
      refine lv_iadd hx hb dL_law_1308 ?_
      obtain ⟨v1309, hv, h⟩ := bw_b1_e h
      refine bw_scr hx hb hX hbl hbA hI hv dL_law_1309 ?_
      obtain ⟨r1310, th_1310, hc, h⟩ := bw_b2_e h
      refine bw_callV S hK hZ hI (mX6_setting l G cy g a z rows asd sm buf bm th od om ow ca bo la pl to rd hh v1309 r1310 th_1310 hc) Y_X6_setting V_X6_setting l_L_156 ⟨(Nat.le_of_ble_eq_true rfl), (Nat.le_of_ble_eq_true rfl)⟩ (q0 := 0) rfl rfl rfl (ws' := (bw_lW cy b a o d t sl hn hs cs ln rp rn rt z rows asd sm buf bm th_1310 od om ow ca bo la pl to rd hh ou_1298)) (bw_pl_m cy b a o d t sl hn hs cs ln rp rn rt z rows asd sm buf bm th od om ow ca bo la pl to rd hh ou_1298) (bw_pl_m cy b a o d t sl hn hs cs ln rp rn rt z rows asd sm buf bm th_1310 od om ow ca bo la pl to rd hh ou_1298).symm rfl rfl hl.1 (rest := []) (st1 := [.int r1310]) rfl rfl (Nat.le_of_ble_eq_true rfl) dL_law_1310 ⟨(by show _ ≤ 601024; omega), (by show _ ≤ 7293034; omega)⟩ (fun H locs hI => ?_)
      refine lv_istore (lv' := [(6, .int r1310), (5, .int r1298), (0, .ref bs), (1, .ref (b 8 5)), (2, .ref (a 0)), (3, .ref o), (4, .int x4)]) hx hb dL_law_1313 hl (by decide) rfl (fun ls hl => ?_)
      refine lv_aload_n hx hb dL_law_1315 rfl (lv_at hl 4 rfl) ?_
      obtain ⟨r1316, hc, h⟩ := bw_b1_e h
      refine bw_callV S hK hZ hI (mX6_thrown l G cy g a z rows asd sm buf bm th_1310 od om ow ca bo la pl to rd hh r1316 hc) Y_X6_thrown V_X6_thrown l_L_92 ⟨(Nat.le_of_ble_eq_true rfl), (Nat.le_of_ble_eq_true rfl)⟩ (q0 := 0) rfl rfl rfl (ws' := (bw_lW cy b a o d t sl hn hs cs ln rp rn rt z rows asd sm buf bm th_1310 od om ow ca bo la pl to rd hh ou_1298)) (bw_pl_m cy b a o d t sl hn hs cs ln rp rn rt z rows asd sm buf bm th_1310 od om ow ca bo la pl to rd hh ou_1298) (bw_pl_m cy b a o d t sl hn hs cs ln rp rn rt z rows asd sm buf bm th_1310 od om ow ca bo la pl to rd hh ou_1298).symm rfl rfl hl.1 (rest := []) (st1 := [.int r1316]) rfl rfl (Nat.le_of_ble_eq_true rfl) dL_law_1316 ⟨(by show _ ≤ 601024; omega), (by show _ ≤ 7293034; omega)⟩ (fun H locs hI => ?_)
      refine lv_iload hx hb dL_law_1319 (lv_at hl 1 rfl) ?_
      refine lv_icmp_eq (tgt := 1326) hx hb dL_law_1321 (by decide) (fun c_1321 => ?_) (fun c_1321 => ?_)
      · rw [if_pos c_1321] at h
        refine lv_iload hx hb dL_law_1326 (lv_at hl 1 rfl) ?_
        refine lv_if_ne (tgt := 1343) hx hb dL_law_1328 (by decide) (fun c_1328 => ?_) (fun c_1328 => ?_)
        · rw [if_neg c_1328] at h
          refine W.widen (k := 601024 - 4 * n) (n := 7293034 - 24 * n) (by omega) (by omega) ?_
          exact jL_law_1343_w l hfl G cy g b a o bs sl_ xs S hr hlocks hK hZ hX hbl hbA hA9 n h9 d t sl hn hs cs ln rp rn rt z rows asd sm buf bm th_1310 od om ow ca bo la pl to rd hh ou_1298 x4 (lL_law_23 sl_ xs n) ih _ _ _ h hI (lv_sub hl [2,3,4,5,6] rfl)
        rw [if_pos c_1328] at h
        refine lv_aload_n hx hb dL_law_1331 rfl (lv_at hl 5 rfl) ?_
        refine lv_iconst (v := 0) hx hb dL_law_1332 rfl ?_
        refine bw_lald hx hb hK hI 94 (by decide) rfl dL_law_1333 ?_
        refine lv_iload hx hb dL_law_1334 (lv_at hl 0 rfl) ?_
        refine lv_i2l hx hb dL_law_1336 rfl ?_
        refine W.lcmp hx hb dL_law_1337 ?_
        refine lv_if_eq (tgt := 1343) hx hb dL_law_1338 (by decide) (fun c_1338 => ?_) (fun c_1338 => ?_)
        · rw [if_pos c_1338] at h
          refine W.widen (k := 601024 - 4 * n) (n := 7293034 - 24 * n) (by omega) (by omega) ?_
          exact jL_law_1343_w l hfl G cy g b a o bs sl_ xs S hr hlocks hK hZ hX hbl hbA hA9 n h9 d t sl hn hs cs ln rp rn rt z rows asd sm buf bm th_1310 od om ow ca bo la pl to rd hh ou_1298 x4 (lL_law_23 sl_ xs n) ih _ _ _ h hI (lv_sub hl [2,3,4,5,6] rfl)
        rw [if_neg c_1338] at h
        refine lv_iconst (v := 0) hx hb dL_law_1341 rfl ?_
        exact bw_none h
      rw [if_neg c_1321] at h
      refine lv_iconst (v := 0) hx hb dL_law_1324 rfl ?_
      exact bw_none h
    rw [if_neg c_39_19] at h
    by_cases c_39_20 : (v35 &&& 31) = 20
    · rw [if_pos c_39_20] at h
      refine lv_tableIn (tgt := 1346) hx hb dL_law_39 (by rw [c_39_20]; decide) (by rw [c_39_20]; decide) (by rw [c_39_20]; rfl) (by decide) ?_
      refine lv_aload_n hx hb dL_law_1346 rfl (lv_at hl 1 rfl) ?_
      refine lv_aload_n hx hb dL_law_1347 rfl (lv_at hl 0 rfl) ?_
      refine lv_iload hx hb dL_law_1348 (lv_at hl 4 rfl) ?_
      refine lv_iconst (v := 1) hx hb dL_law_1350 rfl ?_
      refine lv_iadd hx hb dL_law_1351 ?_
      obtain ⟨v1352, hv, h⟩ := bw_b1_e h
      refine bw_scr hx hb hX hbl hbA hI hv dL_law_1352 ?_
      refine lv_aload_n hx hb dL_law_1353 rfl (lv_at hl 0 rfl) ?_
      refine lv_iload hx hb dL_law_1354 (lv_at hl 4 rfl) ?_
      refine lv_iconst (v := 2) hx hb dL_law_1356 rfl ?_
      refine lv_iadd hx hb dL_law_1357 ?_
      obtain ⟨v1358, hv, h⟩ := bw_b1_e h
      refine bw_scr hx hb hX hbl hbA hI hv dL_law_1358 ?_
      refine lv_aload_n hx hb dL_law_1359 rfl (lv_at hl 0 rfl) ?_
      refine lv_iload hx hb dL_law_1360 (lv_at hl 4 rfl) ?_
      refine lv_iconst (v := 3) hx hb dL_law_1362 rfl ?_
      refine lv_iadd hx hb dL_law_1363 ?_
      obtain ⟨v1364, hv, h⟩ := bw_b1_e h
      refine bw_scr hx hb hX hbl hbA hI hv dL_law_1364 ?_
      refine lv_aload_n hx hb dL_law_1365 rfl (lv_at hl 3 rfl) ?_
      obtain ⟨r1366, t_1366, ou_1366, hc, h⟩ := bw_b3_e h
      refine bw_callH S hK hZ hI (mL_ifDone l hfl G cy g b o d t sl hn hs cs ln rp rn rt v1352 v1358 v1364 ou r1366 t_1366 ou_1366 hc) Y_L_ifDone l_L_157 ⟨(Nat.le_of_ble_eq_true rfl), (Nat.le_of_ble_eq_true rfl)⟩ (ws' := (bw_lW cy b a o d t_1366 sl hn hs cs ln rp rn rt z rows asd sm buf bm th od om ow ca bo la pl to rd hh ou_1366)) (bw_pl_h cy b a o d t sl hn hs cs ln rp rn rt z rows asd sm buf bm th od om ow ca bo la pl to rd hh ou) (bw_pl_h cy b a o d t_1366 sl hn hs cs ln rp rn rt z rows asd sm buf bm th od om ow ca bo la pl to rd hh ou_1366).symm rfl rfl hl.1 (rest := []) (st1 := [.int r1366]) rfl rfl (Nat.le_of_ble_eq_true rfl) dL_law_1366 ⟨(by show _ ≤ 601024; omega), (by show _ ≤ 7293034; omega)⟩ (fun H locs hI => ?_)
      refine lv_istore (lv' := [(5, .int r1366), (0, .ref bs), (1, .ref (b 8 5)), (2, .ref (a 0)), (3, .ref o), (4, .int x4)]) hx hb dL_law_1369 hl (by decide) rfl (fun ls hl => ?_)
      refine lv_aload_n hx hb dL_law_1371 rfl (lv_at hl 3 rfl) ?_
      refine lv_aload_n hx hb dL_law_1372 rfl (lv_at hl 1 rfl) ?_
      refine lv_iload hx hb dL_law_1373 (lv_at hl 5 rfl) ?_
      refine lv_iconst (v := 1) hx hb dL_law_1375 rfl ?_
      refine lv_iadd hx hb dL_law_1376 ?_
      obtain ⟨v1377, hv, h⟩ := bw_b1_e h
      refine bw_scr hx hb hX hbl hbA hI hv dL_law_1377 ?_
      refine lv_aload_n hx hb dL_law_1378 rfl (lv_at hl 1 rfl) ?_
      refine lv_iload hx hb dL_law_1379 (lv_at hl 5 rfl) ?_
      refine lv_iconst (v := 2) hx hb dL_law_1381 rfl ?_
      refine lv_iadd hx hb dL_law_1382 ?_
      obtain ⟨v1383, hv, h⟩ := bw_b1_e h
      refine bw_scr hx hb hX hbl hbA hI hv dL_law_1383 ?_
      refine lv_aload_n hx hb dL_law_1384 rfl (lv_at hl 1 rfl) ?_
      refine lv_iload hx hb dL_law_1385 (lv_at hl 5 rfl) ?_
      refine lv_iconst (v := 3) hx hb dL_law_1387 rfl ?_
      refine lv_iadd hx hb dL_law_1388 ?_
      obtain ⟨v1389, hv, h⟩ := bw_b1_e h
      refine bw_scr hx hb hX hbl hbA hI hv dL_law_1389 ?_
      obtain ⟨r1390, z_1390, asd_1390, th_1390, od_1390, om_1390, ow_1390, ca_1390, bo_1390, la_1390, hc, h⟩ := bw_b10_e h
      refine bw_callV S hK hZ hI (mX6_ifDone l G cy g a z rows asd sm buf bm th od om ow ca bo la pl to rd hh v1377 v1383 v1389 r1390 z_1390 asd_1390 th_1390 od_1390 om_1390 ow_1390 ca_1390 bo_1390 la_1390 hc) Y_X6_ifDone V_X6_ifDone l_L_159 ⟨(Nat.le_of_ble_eq_true rfl), (Nat.le_of_ble_eq_true rfl)⟩ (q0 := 0) rfl rfl rfl (ws' := (bw_lW cy b a o d t_1366 sl hn hs cs ln rp rn rt z_1390 rows asd_1390 sm buf bm th_1390 od_1390 om_1390 ow_1390 ca_1390 bo_1390 la_1390 pl to rd hh ou_1366)) (bw_pl_m cy b a o d t_1366 sl hn hs cs ln rp rn rt z rows asd sm buf bm th od om ow ca bo la pl to rd hh ou_1366) (bw_pl_m cy b a o d t_1366 sl hn hs cs ln rp rn rt z_1390 rows asd_1390 sm buf bm th_1390 od_1390 om_1390 ow_1390 ca_1390 bo_1390 la_1390 pl to rd hh ou_1366).symm rfl rfl hl.1 (rest := []) (st1 := [.int r1390]) rfl rfl (Nat.le_of_ble_eq_true rfl) dL_law_1390 ⟨(by show _ ≤ 601024; omega), (by show _ ≤ 7293034; omega)⟩ (fun H locs hI => ?_)
      refine lv_istore (lv' := [(6, .int r1390), (5, .int r1366), (0, .ref bs), (1, .ref (b 8 5)), (2, .ref (a 0)), (3, .ref o), (4, .int x4)]) hx hb dL_law_1393 hl (by decide) rfl (fun ls hl => ?_)
      refine lv_aload_n hx hb dL_law_1395 rfl (lv_at hl 4 rfl) ?_
      obtain ⟨r1396, hc, h⟩ := bw_b1_e h
      refine bw_callV S hK hZ hI (mX6_thrown l G cy g a z_1390 rows asd_1390 sm buf bm th_1390 od_1390 om_1390 ow_1390 ca_1390 bo_1390 la_1390 pl to rd hh r1396 hc) Y_X6_thrown V_X6_thrown l_L_92 ⟨(Nat.le_of_ble_eq_true rfl), (Nat.le_of_ble_eq_true rfl)⟩ (q0 := 0) rfl rfl rfl (ws' := (bw_lW cy b a o d t_1366 sl hn hs cs ln rp rn rt z_1390 rows asd_1390 sm buf bm th_1390 od_1390 om_1390 ow_1390 ca_1390 bo_1390 la_1390 pl to rd hh ou_1366)) (bw_pl_m cy b a o d t_1366 sl hn hs cs ln rp rn rt z_1390 rows asd_1390 sm buf bm th_1390 od_1390 om_1390 ow_1390 ca_1390 bo_1390 la_1390 pl to rd hh ou_1366) (bw_pl_m cy b a o d t_1366 sl hn hs cs ln rp rn rt z_1390 rows asd_1390 sm buf bm th_1390 od_1390 om_1390 ow_1390 ca_1390 bo_1390 la_1390 pl to rd hh ou_1366).symm rfl rfl hl.1 (rest := []) (st1 := [.int r1396]) rfl rfl (Nat.le_of_ble_eq_true rfl) dL_law_1396 ⟨(by show _ ≤ 601024; omega), (by show _ ≤ 7293034; omega)⟩ (fun H locs hI => ?_)
      refine lv_iload hx hb dL_law_1399 (lv_at hl 1 rfl) ?_
      refine lv_icmp_eq (tgt := 1406) hx hb dL_law_1401 (by decide) (fun c_1401 => ?_) (fun c_1401 => ?_)
      · rw [if_pos c_1401] at h
        refine lv_iload hx hb dL_law_1406 (lv_at hl 1 rfl) ?_
        refine lv_if_ne (tgt := 1423) hx hb dL_law_1408 (by decide) (fun c_1408 => ?_) (fun c_1408 => ?_)
        · rw [if_neg c_1408] at h
          refine W.widen (k := 601024 - 4 * n) (n := 7293034 - 24 * n) (by omega) (by omega) ?_
          exact jL_law_1423_w l hfl G cy g b a o bs sl_ xs S hr hlocks hK hZ hX hbl hbA hA9 n h9 d t_1366 sl hn hs cs ln rp rn rt z_1390 rows asd_1390 sm buf bm th_1390 od_1390 om_1390 ow_1390 ca_1390 bo_1390 la_1390 pl to rd hh ou_1366 x4 (lL_law_23 sl_ xs n) ih _ _ _ h hI (lv_sub hl [2,3,4,5,6] rfl)
        rw [if_pos c_1408] at h
        refine lv_aload_n hx hb dL_law_1411 rfl (lv_at hl 5 rfl) ?_
        refine lv_iconst (v := 0) hx hb dL_law_1412 rfl ?_
        refine bw_lald hx hb hK hI 94 (by decide) rfl dL_law_1413 ?_
        refine lv_iload hx hb dL_law_1414 (lv_at hl 0 rfl) ?_
        refine lv_i2l hx hb dL_law_1416 rfl ?_
        refine W.lcmp hx hb dL_law_1417 ?_
        refine lv_if_eq (tgt := 1423) hx hb dL_law_1418 (by decide) (fun c_1418 => ?_) (fun c_1418 => ?_)
        · rw [if_pos c_1418] at h
          refine W.widen (k := 601024 - 4 * n) (n := 7293034 - 24 * n) (by omega) (by omega) ?_
          exact jL_law_1423_w l hfl G cy g b a o bs sl_ xs S hr hlocks hK hZ hX hbl hbA hA9 n h9 d t_1366 sl hn hs cs ln rp rn rt z_1390 rows asd_1390 sm buf bm th_1390 od_1390 om_1390 ow_1390 ca_1390 bo_1390 la_1390 pl to rd hh ou_1366 x4 (lL_law_23 sl_ xs n) ih _ _ _ h hI (lv_sub hl [2,3,4,5,6] rfl)
        rw [if_neg c_1418] at h
        refine lv_iconst (v := 0) hx hb dL_law_1421 rfl ?_
        exact bw_none h
      rw [if_neg c_1401] at h
      refine lv_iconst (v := 0) hx hb dL_law_1404 rfl ?_
      exact bw_none h
    rw [if_neg c_39_20] at h
    by_cases c_39_21 : (v35 &&& 31) = 21
    · rw [if_pos c_39_21] at h
      refine lv_tableIn (tgt := 1426) hx hb dL_law_39 (by rw [c_39_21]; decide) (by rw [c_39_21]; decide) (by rw [c_39_21]; rfl) (by decide) ?_
      refine lv_aload_n hx hb dL_law_1426 rfl (lv_at hl 1 rfl) ?_
      refine lv_aload_n hx hb dL_law_1427 rfl (lv_at hl 0 rfl) ?_
      refine lv_iload hx hb dL_law_1428 (lv_at hl 4 rfl) ?_
      refine lv_iconst (v := 1) hx hb dL_law_1430 rfl ?_
      refine lv_iadd hx hb dL_law_1431 ?_
      obtain ⟨v1432, hv, h⟩ := bw_b1_e h
      refine bw_scr hx hb hX hbl hbA hI hv dL_law_1432 ?_
      refine lv_aload_n hx hb dL_law_1433 rfl (lv_at hl 3 rfl) ?_
      obtain ⟨r1434, ou_1434, hc, h⟩ := bw_b2_e h
      refine bw_callH S hK hZ hI (mL_bears l hfl G cy g b o d t sl hn hs cs ln rp rn rt v1432 ou r1434 ou_1434 hc) Y_L_bears l_L_160 ⟨(Nat.le_of_ble_eq_true rfl), (Nat.le_of_ble_eq_true rfl)⟩ (ws' := (bw_lW cy b a o d t sl hn hs cs ln rp rn rt z rows asd sm buf bm th od om ow ca bo la pl to rd hh ou_1434)) (bw_pl_h cy b a o d t sl hn hs cs ln rp rn rt z rows asd sm buf bm th od om ow ca bo la pl to rd hh ou) (bw_pl_h cy b a o d t sl hn hs cs ln rp rn rt z rows asd sm buf bm th od om ow ca bo la pl to rd hh ou_1434).symm rfl rfl hl.1 (rest := []) (st1 := [.int r1434]) rfl rfl (Nat.le_of_ble_eq_true rfl) dL_law_1434 ⟨(by show _ ≤ 601024; omega), (by show _ ≤ 7293034; omega)⟩ (fun H locs hI => ?_)
      refine lv_istore (lv' := [(5, .int r1434), (0, .ref bs), (1, .ref (b 8 5)), (2, .ref (a 0)), (3, .ref o), (4, .int x4)]) hx hb dL_law_1437 hl (by decide) rfl (fun ls hl => ?_)
      refine lv_aload_n hx hb dL_law_1439 rfl (lv_at hl 3 rfl) ?_
      refine lv_aload_n hx hb dL_law_1440 rfl (lv_at hl 1 rfl) ?_
      refine lv_iload hx hb dL_law_1441 (lv_at hl 5 rfl) ?_
      refine lv_iconst (v := 1) hx hb dL_law_1443 rfl ?_
      refine lv_iadd hx hb dL_law_1444 ?_
      obtain ⟨v1445, hv, h⟩ := bw_b1_e h
      refine bw_scr hx hb hX hbl hbA hI hv dL_law_1445 ?_
      obtain ⟨r1446, z_1446, asd_1446, th_1446, od_1446, om_1446, ow_1446, ca_1446, bo_1446, la_1446, hc, h⟩ := bw_b10_e h
      refine bw_callV S hK hZ hI (mX6_bears l G cy g a z rows asd sm buf bm th od om ow ca bo la pl to rd hh v1445 r1446 z_1446 asd_1446 th_1446 od_1446 om_1446 ow_1446 ca_1446 bo_1446 la_1446 hc) Y_X6_bears V_X6_bears l_L_162 ⟨(Nat.le_of_ble_eq_true rfl), (Nat.le_of_ble_eq_true rfl)⟩ (q0 := 0) rfl rfl rfl (ws' := (bw_lW cy b a o d t sl hn hs cs ln rp rn rt z_1446 rows asd_1446 sm buf bm th_1446 od_1446 om_1446 ow_1446 ca_1446 bo_1446 la_1446 pl to rd hh ou_1434)) (bw_pl_m cy b a o d t sl hn hs cs ln rp rn rt z rows asd sm buf bm th od om ow ca bo la pl to rd hh ou_1434) (bw_pl_m cy b a o d t sl hn hs cs ln rp rn rt z_1446 rows asd_1446 sm buf bm th_1446 od_1446 om_1446 ow_1446 ca_1446 bo_1446 la_1446 pl to rd hh ou_1434).symm rfl rfl hl.1 (rest := []) (st1 := [.int r1446]) rfl rfl (Nat.le_of_ble_eq_true rfl) dL_law_1446 ⟨(by show _ ≤ 601024; omega), (by show _ ≤ 7293034; omega)⟩ (fun H locs hI => ?_)
      refine lv_istore (lv' := [(6, .int r1446), (5, .int r1434), (0, .ref bs), (1, .ref (b 8 5)), (2, .ref (a 0)), (3, .ref o), (4, .int x4)]) hx hb dL_law_1449 hl (by decide) rfl (fun ls hl => ?_)
      refine lv_aload_n hx hb dL_law_1451 rfl (lv_at hl 4 rfl) ?_
      obtain ⟨r1452, hc, h⟩ := bw_b1_e h
      refine bw_callV S hK hZ hI (mX6_thrown l G cy g a z_1446 rows asd_1446 sm buf bm th_1446 od_1446 om_1446 ow_1446 ca_1446 bo_1446 la_1446 pl to rd hh r1452 hc) Y_X6_thrown V_X6_thrown l_L_92 ⟨(Nat.le_of_ble_eq_true rfl), (Nat.le_of_ble_eq_true rfl)⟩ (q0 := 0) rfl rfl rfl (ws' := (bw_lW cy b a o d t sl hn hs cs ln rp rn rt z_1446 rows asd_1446 sm buf bm th_1446 od_1446 om_1446 ow_1446 ca_1446 bo_1446 la_1446 pl to rd hh ou_1434)) (bw_pl_m cy b a o d t sl hn hs cs ln rp rn rt z_1446 rows asd_1446 sm buf bm th_1446 od_1446 om_1446 ow_1446 ca_1446 bo_1446 la_1446 pl to rd hh ou_1434) (bw_pl_m cy b a o d t sl hn hs cs ln rp rn rt z_1446 rows asd_1446 sm buf bm th_1446 od_1446 om_1446 ow_1446 ca_1446 bo_1446 la_1446 pl to rd hh ou_1434).symm rfl rfl hl.1 (rest := []) (st1 := [.int r1452]) rfl rfl (Nat.le_of_ble_eq_true rfl) dL_law_1452 ⟨(by show _ ≤ 601024; omega), (by show _ ≤ 7293034; omega)⟩ (fun H locs hI => ?_)
      refine lv_iload hx hb dL_law_1455 (lv_at hl 1 rfl) ?_
      refine lv_icmp_eq (tgt := 1462) hx hb dL_law_1457 (by decide) (fun c_1457 => ?_) (fun c_1457 => ?_)
      · rw [if_pos c_1457] at h
        refine lv_iload hx hb dL_law_1462 (lv_at hl 1 rfl) ?_
        refine lv_if_ne (tgt := 1479) hx hb dL_law_1464 (by decide) (fun c_1464 => ?_) (fun c_1464 => ?_)
        · rw [if_neg c_1464] at h
          refine W.widen (k := 601024 - 4 * n) (n := 7293034 - 24 * n) (by omega) (by omega) ?_
          exact jL_law_1479_w l hfl G cy g b a o bs sl_ xs S hr hlocks hK hZ hX hbl hbA hA9 n h9 d t sl hn hs cs ln rp rn rt z_1446 rows asd_1446 sm buf bm th_1446 od_1446 om_1446 ow_1446 ca_1446 bo_1446 la_1446 pl to rd hh ou_1434 x4 (lL_law_23 sl_ xs n) ih _ _ _ h hI (lv_sub hl [2,3,4,5,6] rfl)
        rw [if_pos c_1464] at h
        refine lv_aload_n hx hb dL_law_1467 rfl (lv_at hl 5 rfl) ?_
        refine lv_iconst (v := 0) hx hb dL_law_1468 rfl ?_
        refine bw_lald hx hb hK hI 94 (by decide) rfl dL_law_1469 ?_
        refine lv_iload hx hb dL_law_1470 (lv_at hl 0 rfl) ?_
        refine lv_i2l hx hb dL_law_1472 rfl ?_
        refine W.lcmp hx hb dL_law_1473 ?_
        refine lv_if_eq (tgt := 1479) hx hb dL_law_1474 (by decide) (fun c_1474 => ?_) (fun c_1474 => ?_)
        · rw [if_pos c_1474] at h
          refine W.widen (k := 601024 - 4 * n) (n := 7293034 - 24 * n) (by omega) (by omega) ?_
          exact jL_law_1479_w l hfl G cy g b a o bs sl_ xs S hr hlocks hK hZ hX hbl hbA hA9 n h9 d t sl hn hs cs ln rp rn rt z_1446 rows asd_1446 sm buf bm th_1446 od_1446 om_1446 ow_1446 ca_1446 bo_1446 la_1446 pl to rd hh ou_1434 x4 (lL_law_23 sl_ xs n) ih _ _ _ h hI (lv_sub hl [2,3,4,5,6] rfl)
        rw [if_neg c_1474] at h
        refine lv_iconst (v := 0) hx hb dL_law_1477 rfl ?_
        exact bw_none h
      rw [if_neg c_1457] at h
      refine lv_iconst (v := 0) hx hb dL_law_1460 rfl ?_
      exact bw_none h
    rw [if_neg c_39_21] at h
    by_cases c_39_22 : (v35 &&& 31) = 22
    · rw [if_pos c_39_22] at h
      refine lv_tableIn (tgt := 1482) hx hb dL_law_39 (by rw [c_39_22]; decide) (by rw [c_39_22]; decide) (by rw [c_39_22]; rfl) (by decide) ?_
      refine lv_aload_n hx hb dL_law_1482 rfl (lv_at hl 1 rfl) ?_
      obtain ⟨r1483, hc, h⟩ := bw_b1_e h
      refine bw_callV S hK hZ hI (mX5_weakest l G cy g b d t sl hn hs cs ln rp rn rt r1483 hc) Y_X5_weakest V_X5_weakest l_L_163 ⟨(Nat.le_of_ble_eq_true rfl), (Nat.le_of_ble_eq_true rfl)⟩ (q0 := 0) rfl rfl rfl (ws' := (bw_lW cy b a o d t sl hn hs cs ln rp rn rt z rows asd sm buf bm th od om ow ca bo la pl to rd hh ou)) (bw_pl_x cy b a o d t sl hn hs cs ln rp rn rt z rows asd sm buf bm th od om ow ca bo la pl to rd hh ou) (bw_pl_x cy b a o d t sl hn hs cs ln rp rn rt z rows asd sm buf bm th od om ow ca bo la pl to rd hh ou).symm rfl rfl hl.1 (rest := []) (st1 := [.int r1483]) rfl rfl (Nat.le_of_ble_eq_true rfl) dL_law_1483 ⟨(by show _ ≤ 601024; omega), (by show _ ≤ 7293034; omega)⟩ (fun H locs hI => ?_)
      refine lv_aload_n hx hb dL_law_1486 rfl (lv_at hl 2 rfl) ?_
      obtain ⟨r1487, z_1487, asd_1487, th_1487, od_1487, om_1487, ow_1487, ca_1487, bo_1487, la_1487, hc, h⟩ := bw_b10_e h
      refine bw_callV S hK hZ hI (mX6_weakest l G cy g a z rows asd sm buf bm th od om ow ca bo la pl to rd hh r1487 z_1487 asd_1487 th_1487 od_1487 om_1487 ow_1487 ca_1487 bo_1487 la_1487 hc) Y_X6_weakest V_X6_weakest l_L_166 ⟨(Nat.le_of_ble_eq_true rfl), (Nat.le_of_ble_eq_true rfl)⟩ (q0 := 0) rfl rfl rfl (ws' := (bw_lW cy b a o d t sl hn hs cs ln rp rn rt z_1487 rows asd_1487 sm buf bm th_1487 od_1487 om_1487 ow_1487 ca_1487 bo_1487 la_1487 pl to rd hh ou)) (bw_pl_m cy b a o d t sl hn hs cs ln rp rn rt z rows asd sm buf bm th od om ow ca bo la pl to rd hh ou) (bw_pl_m cy b a o d t sl hn hs cs ln rp rn rt z_1487 rows asd_1487 sm buf bm th_1487 od_1487 om_1487 ow_1487 ca_1487 bo_1487 la_1487 pl to rd hh ou).symm rfl rfl hl.1 (rest := [.int r1483]) (st1 := [.int r1487, .int r1483]) rfl rfl (Nat.le_of_ble_eq_true rfl) dL_law_1487 ⟨(by show _ ≤ 601024; omega), (by show _ ≤ 7293034; omega)⟩ (fun H locs hI => ?_)
      refine lv_icmp_eq (tgt := 1618) hx hb dL_law_1490 (by decide) (fun c_1490 => ?_) (fun c_1490 => ?_)
      · rw [if_pos c_1490] at h
        refine W.widen (k := 601024 - 4 * n) (n := 7293034 - 24 * n) (by omega) (by omega) ?_
        exact jL_law_1618_w l hfl G cy g b a o bs sl_ xs S hr hlocks hK hZ hX hbl hbA hA9 n h9 d t sl hn hs cs ln rp rn rt z_1487 rows asd_1487 sm buf bm th_1487 od_1487 om_1487 ow_1487 ca_1487 bo_1487 la_1487 pl to rd hh ou x4 (lL_law_23 sl_ xs n) ih _ _ _ h hI (lv_sub hl [0,1,2,3,4] rfl)
      rw [if_neg c_1490] at h
      refine lv_iconst (v := 0) hx hb dL_law_1493 rfl ?_
      exact bw_none h
    rw [if_neg c_39_22] at h
    by_cases c_39_23 : (v35 &&& 31) = 23
    · rw [if_pos c_39_23] at h
      refine lv_tableIn (tgt := 1495) hx hb dL_law_39 (by rw [c_39_23]; decide) (by rw [c_39_23]; decide) (by rw [c_39_23]; rfl) (by decide) ?_
      refine lv_aload_n hx hb dL_law_1495 rfl (lv_at hl 1 rfl) ?_
      refine lv_aload_n hx hb dL_law_1496 rfl (lv_at hl 0 rfl) ?_
      refine lv_iload hx hb dL_law_1497 (lv_at hl 4 rfl) ?_
      refine lv_iconst (v := 1) hx hb dL_law_1499 rfl ?_
      refine lv_iadd hx hb dL_law_1500 ?_
      obtain ⟨v1501, hv, h⟩ := bw_b1_e h
      refine bw_scr hx hb hX hbl hbA hI hv dL_law_1501 ?_
      refine lv_aload_n hx hb dL_law_1502 rfl (lv_at hl 0 rfl) ?_
      refine lv_iload hx hb dL_law_1503 (lv_at hl 4 rfl) ?_
      refine lv_iconst (v := 2) hx hb dL_law_1505 rfl ?_
      refine lv_iadd hx hb dL_law_1506 ?_
      obtain ⟨v1507, hv, h⟩ := bw_b1_e h
      refine bw_scr hx hb hX hbl hbA hI hv dL_law_1507 ?_
      refine lv_aload_n hx hb dL_law_1508 rfl (lv_at hl 3 rfl) ?_
      obtain ⟨r1509, t_1509, ou_1509, hc, h⟩ := bw_b3_e h
      refine bw_callH S hK hZ hI (mL_bestRule l hfl G cy g b o d t sl hn hs cs ln rp rn rt v1501 v1507 ou r1509 t_1509 ou_1509 hc) Y_L_bestRule l_L_167 ⟨(Nat.le_of_ble_eq_true rfl), (Nat.le_of_ble_eq_true rfl)⟩ (ws' := (bw_lW cy b a o d t_1509 sl hn hs cs ln rp rn rt z rows asd sm buf bm th od om ow ca bo la pl to rd hh ou_1509)) (bw_pl_h cy b a o d t sl hn hs cs ln rp rn rt z rows asd sm buf bm th od om ow ca bo la pl to rd hh ou) (bw_pl_h cy b a o d t_1509 sl hn hs cs ln rp rn rt z rows asd sm buf bm th od om ow ca bo la pl to rd hh ou_1509).symm rfl rfl hl.1 (rest := []) (st1 := [.int r1509]) rfl rfl (Nat.le_of_ble_eq_true rfl) dL_law_1509 ⟨(by show _ ≤ 601024; omega), (by show _ ≤ 7293034; omega)⟩ (fun H locs hI => ?_)
      refine lv_istore (lv' := [(5, .int r1509), (0, .ref bs), (1, .ref (b 8 5)), (2, .ref (a 0)), (3, .ref o), (4, .int x4)]) hx hb dL_law_1512 hl (by decide) rfl (fun ls hl => ?_)
      refine lv_aload_n hx hb dL_law_1514 rfl (lv_at hl 3 rfl) ?_
      refine lv_aload_n hx hb dL_law_1515 rfl (lv_at hl 1 rfl) ?_
      refine lv_iload hx hb dL_law_1516 (lv_at hl 5 rfl) ?_
      refine lv_iconst (v := 1) hx hb dL_law_1518 rfl ?_
      refine lv_iadd hx hb dL_law_1519 ?_
      obtain ⟨v1520, hv, h⟩ := bw_b1_e h
      refine bw_scr hx hb hX hbl hbA hI hv dL_law_1520 ?_
      refine lv_aload_n hx hb dL_law_1521 rfl (lv_at hl 1 rfl) ?_
      refine lv_iload hx hb dL_law_1522 (lv_at hl 5 rfl) ?_
      refine lv_iconst (v := 2) hx hb dL_law_1524 rfl ?_
      refine lv_iadd hx hb dL_law_1525 ?_
      obtain ⟨v1526, hv, h⟩ := bw_b1_e h
      refine bw_scr hx hb hX hbl hbA hI hv dL_law_1526 ?_
      obtain ⟨r1527, z_1527, asd_1527, th_1527, od_1527, om_1527, ow_1527, ca_1527, bo_1527, la_1527, hc, h⟩ := bw_b10_e h
      refine bw_callV S hK hZ hI (mX6_bestRule l G cy g a z rows asd sm buf bm th od om ow ca bo la pl to rd hh v1520 v1526 r1527 z_1527 asd_1527 th_1527 od_1527 om_1527 ow_1527 ca_1527 bo_1527 la_1527 hc) Y_X6_bestRule V_X6_bestRule l_L_169 ⟨(Nat.le_of_ble_eq_true rfl), (Nat.le_of_ble_eq_true rfl)⟩ (q0 := 0) rfl rfl rfl (ws' := (bw_lW cy b a o d t_1509 sl hn hs cs ln rp rn rt z_1527 rows asd_1527 sm buf bm th_1527 od_1527 om_1527 ow_1527 ca_1527 bo_1527 la_1527 pl to rd hh ou_1509)) (bw_pl_m cy b a o d t_1509 sl hn hs cs ln rp rn rt z rows asd sm buf bm th od om ow ca bo la pl to rd hh ou_1509) (bw_pl_m cy b a o d t_1509 sl hn hs cs ln rp rn rt z_1527 rows asd_1527 sm buf bm th_1527 od_1527 om_1527 ow_1527 ca_1527 bo_1527 la_1527 pl to rd hh ou_1509).symm rfl rfl hl.1 (rest := []) (st1 := [.int r1527]) rfl rfl (Nat.le_of_ble_eq_true rfl) dL_law_1527 ⟨(by show _ ≤ 601024; omega), (by show _ ≤ 7293034; omega)⟩ (fun H locs hI => ?_)
      refine lv_istore (lv' := [(6, .int r1527), (5, .int r1509), (0, .ref bs), (1, .ref (b 8 5)), (2, .ref (a 0)), (3, .ref o), (4, .int x4)]) hx hb dL_law_1530 hl (by decide) rfl (fun ls hl => ?_)
      refine lv_aload_n hx hb dL_law_1532 rfl (lv_at hl 4 rfl) ?_
      obtain ⟨r1533, hc, h⟩ := bw_b1_e h
      refine bw_callV S hK hZ hI (mX6_thrown l G cy g a z_1527 rows asd_1527 sm buf bm th_1527 od_1527 om_1527 ow_1527 ca_1527 bo_1527 la_1527 pl to rd hh r1533 hc) Y_X6_thrown V_X6_thrown l_L_92 ⟨(Nat.le_of_ble_eq_true rfl), (Nat.le_of_ble_eq_true rfl)⟩ (q0 := 0) rfl rfl rfl (ws' := (bw_lW cy b a o d t_1509 sl hn hs cs ln rp rn rt z_1527 rows asd_1527 sm buf bm th_1527 od_1527 om_1527 ow_1527 ca_1527 bo_1527 la_1527 pl to rd hh ou_1509)) (bw_pl_m cy b a o d t_1509 sl hn hs cs ln rp rn rt z_1527 rows asd_1527 sm buf bm th_1527 od_1527 om_1527 ow_1527 ca_1527 bo_1527 la_1527 pl to rd hh ou_1509) (bw_pl_m cy b a o d t_1509 sl hn hs cs ln rp rn rt z_1527 rows asd_1527 sm buf bm th_1527 od_1527 om_1527 ow_1527 ca_1527 bo_1527 la_1527 pl to rd hh ou_1509).symm rfl rfl hl.1 (rest := []) (st1 := [.int r1533]) rfl rfl (Nat.le_of_ble_eq_true rfl) dL_law_1533 ⟨(by show _ ≤ 601024; omega), (by show _ ≤ 7293034; omega)⟩ (fun H locs hI => ?_)
      refine lv_iload hx hb dL_law_1536 (lv_at hl 1 rfl) ?_
      refine lv_icmp_eq (tgt := 1543) hx hb dL_law_1538 (by decide) (fun c_1538 => ?_) (fun c_1538 => ?_)
      · rw [if_pos c_1538] at h
        refine lv_iload hx hb dL_law_1543 (lv_at hl 1 rfl) ?_
        refine lv_if_ne (tgt := 1560) hx hb dL_law_1545 (by decide) (fun c_1545 => ?_) (fun c_1545 => ?_)
        · rw [if_neg c_1545] at h
          refine W.widen (k := 601024 - 4 * n) (n := 7293034 - 24 * n) (by omega) (by omega) ?_
          exact jL_law_1560_w l hfl G cy g b a o bs sl_ xs S hr hlocks hK hZ hX hbl hbA hA9 n h9 d t_1509 sl hn hs cs ln rp rn rt z_1527 rows asd_1527 sm buf bm th_1527 od_1527 om_1527 ow_1527 ca_1527 bo_1527 la_1527 pl to rd hh ou_1509 x4 (lL_law_23 sl_ xs n) ih _ _ _ h hI (lv_sub hl [2,3,4,5,6] rfl)
        rw [if_pos c_1545] at h
        refine lv_aload_n hx hb dL_law_1548 rfl (lv_at hl 5 rfl) ?_
        refine lv_iconst (v := 0) hx hb dL_law_1549 rfl ?_
        refine bw_lald hx hb hK hI 94 (by decide) rfl dL_law_1550 ?_
        refine lv_iload hx hb dL_law_1551 (lv_at hl 0 rfl) ?_
        refine lv_i2l hx hb dL_law_1553 rfl ?_
        refine W.lcmp hx hb dL_law_1554 ?_
        refine lv_if_eq (tgt := 1560) hx hb dL_law_1555 (by decide) (fun c_1555 => ?_) (fun c_1555 => ?_)
        · rw [if_pos c_1555] at h
          refine W.widen (k := 601024 - 4 * n) (n := 7293034 - 24 * n) (by omega) (by omega) ?_
          exact jL_law_1560_w l hfl G cy g b a o bs sl_ xs S hr hlocks hK hZ hX hbl hbA hA9 n h9 d t_1509 sl hn hs cs ln rp rn rt z_1527 rows asd_1527 sm buf bm th_1527 od_1527 om_1527 ow_1527 ca_1527 bo_1527 la_1527 pl to rd hh ou_1509 x4 (lL_law_23 sl_ xs n) ih _ _ _ h hI (lv_sub hl [2,3,4,5,6] rfl)
        rw [if_neg c_1555] at h
        refine lv_iconst (v := 0) hx hb dL_law_1558 rfl ?_
        exact bw_none h
      rw [if_neg c_1538] at h
      refine lv_iconst (v := 0) hx hb dL_law_1541 rfl ?_
      exact bw_none h
    rw [if_neg c_39_23] at h
    by_cases c_39_24 : (v35 &&& 31) = 24
    · rw [if_pos c_39_24] at h
      refine lv_tableIn (tgt := 1563) hx hb dL_law_39 (by rw [c_39_24]; decide) (by rw [c_39_24]; decide) (by rw [c_39_24]; rfl) (by decide) ?_
      refine lv_aload_n hx hb dL_law_1563 rfl (lv_at hl 1 rfl) ?_
      obtain ⟨r1564, hc, h⟩ := bw_b1_e h
      refine bw_callV S hK hZ hI (mX5_lateShare l G cy g b d t sl hn hs cs ln rp rn rt r1564 hc) Y_X5_lateShare V_X5_lateShare l_L_170 ⟨(Nat.le_of_ble_eq_true rfl), (Nat.le_of_ble_eq_true rfl)⟩ (q0 := 0) rfl rfl rfl (ws' := (bw_lW cy b a o d t sl hn hs cs ln rp rn rt z rows asd sm buf bm th od om ow ca bo la pl to rd hh ou)) (bw_pl_x cy b a o d t sl hn hs cs ln rp rn rt z rows asd sm buf bm th od om ow ca bo la pl to rd hh ou) (bw_pl_x cy b a o d t sl hn hs cs ln rp rn rt z rows asd sm buf bm th od om ow ca bo la pl to rd hh ou).symm rfl rfl hl.1 (rest := []) (st1 := [.double r1564]) rfl rfl (Nat.le_of_ble_eq_true rfl) dL_law_1564 ⟨(by show _ ≤ 601024; omega), (by show _ ≤ 7293034; omega)⟩ (fun H locs hI => ?_)
      refine lv_dstore (lv' := [(5, .double r1564), (0, .ref bs), (1, .ref (b 8 5)), (2, .ref (a 0)), (3, .ref o), (4, .int x4)]) hx hb dL_law_1567 hl (by decide) rfl (fun ls hl => ?_)
      refine lv_aload_n hx hb dL_law_1569 rfl (lv_at hl 3 rfl) ?_
      obtain ⟨r1570, th_1570, hc, h⟩ := bw_b2_e h
      refine bw_callV S hK hZ hI (mX6_lateShare l G cy g a z rows asd sm buf bm th od om ow ca bo la pl to rd hh r1570 th_1570 hc) Y_X6_lateShare V_X6_lateShare l_L_174 ⟨(Nat.le_of_ble_eq_true rfl), (Nat.le_of_ble_eq_true rfl)⟩ (q0 := 0) rfl rfl rfl (ws' := (bw_lW cy b a o d t sl hn hs cs ln rp rn rt z rows asd sm buf bm th_1570 od om ow ca bo la pl to rd hh ou)) (bw_pl_m cy b a o d t sl hn hs cs ln rp rn rt z rows asd sm buf bm th od om ow ca bo la pl to rd hh ou) (bw_pl_m cy b a o d t sl hn hs cs ln rp rn rt z rows asd sm buf bm th_1570 od om ow ca bo la pl to rd hh ou).symm rfl rfl hl.1 (rest := []) (st1 := [.double r1570]) rfl rfl (Nat.le_of_ble_eq_true rfl) dL_law_1570 ⟨(by show _ ≤ 601024; omega), (by show _ ≤ 7293034; omega)⟩ (fun H locs hI => ?_)
      refine lv_dstore (lv' := [(7, .double r1570), (5, .double r1564), (0, .ref bs), (1, .ref (b 8 5)), (2, .ref (a 0)), (3, .ref o), (4, .int x4)]) hx hb dL_law_1573 hl (by decide) rfl (fun ls hl => ?_)
      refine lv_dload hx hb dL_law_1575 (lv_at hl 1 rfl) ?_
      refine lv_dload hx hb dL_law_1577 (lv_at hl 0 rfl) ?_
      refine lv_dcmp hx hb dL_law_1579 ?_
      refine lv_if_eq (tgt := 1601) hx hb dL_law_1580 (by decide) (fun c_1580 => ?_) (fun c_1580 => ?_)
      · rw [if_pos c_1580] at h
        refine W.widen (k := 601024 - 4 * n) (n := 7293034 - 24 * n) (by omega) (by omega) ?_
        exact jL_law_1601_w l hfl G cy g b a o bs sl_ xs S hr hlocks hK hZ hX hbl hbA hA9 n h9 d t sl hn hs cs ln rp rn rt z rows asd sm buf bm th_1570 od om ow ca bo la pl to rd hh ou x4 (lL_law_23 sl_ xs n) ih _ _ _ h hI (lv_sub hl [2,3,4,5,6] rfl)
      rw [if_neg c_1580] at h
      refine lv_dload hx hb dL_law_1583 (lv_at hl 1 rfl) ?_
      refine lv_dload hx hb dL_law_1585 (lv_at hl 1 rfl) ?_
      refine lv_dcmp hx hb dL_law_1587 ?_
      refine lv_if_eq (tgt := 1599) hx hb dL_law_1588 (by decide) (fun c_1588 => ?_) (fun c_1588 => ?_)
      · rw [if_pos c_1588] at h
        refine lv_iconst (v := 0) hx hb dL_law_1599 rfl ?_
        exact bw_none h
      rw [if_neg c_1588] at h
      refine lv_dload hx hb dL_law_1591 (lv_at hl 0 rfl) ?_
      refine lv_dload hx hb dL_law_1593 (lv_at hl 0 rfl) ?_
      refine lv_dcmp hx hb dL_law_1595 ?_
      refine lv_if_ne (tgt := 1601) hx hb dL_law_1596 (by decide) (fun c_1596 => ?_) (fun c_1596 => ?_)
      · rw [if_neg c_1596] at h
        refine W.widen (k := 601024 - 4 * n) (n := 7293034 - 24 * n) (by omega) (by omega) ?_
        exact jL_law_1601_w l hfl G cy g b a o bs sl_ xs S hr hlocks hK hZ hX hbl hbA hA9 n h9 d t sl hn hs cs ln rp rn rt z rows asd sm buf bm th_1570 od om ow ca bo la pl to rd hh ou x4 (lL_law_23 sl_ xs n) ih _ _ _ h hI (lv_sub hl [2,3,4,5,6] rfl)
      rw [if_pos c_1596] at h
      refine lv_iconst (v := 0) hx hb dL_law_1599 rfl ?_
      exact bw_none h
    rw [if_neg c_39_24] at h
    by_cases c_39_25 : (v35 &&& 31) = 25
    · rw [if_pos c_39_25] at h
      refine lv_tableIn (tgt := 1604) hx hb dL_law_39 (by rw [c_39_25]; decide) (by rw [c_39_25]; decide) (by rw [c_39_25]; rfl) (by decide) ?_
      refine lv_aload_n hx hb dL_law_1604 rfl (lv_at hl 1 rfl) ?_
      obtain ⟨r1605, d_1605, t_1605, hc, h⟩ := bw_b3_e h
      refine bw_callV S hK hZ hI (mX5_digest l G cy g b d t sl hn hs cs ln rp rn rt r1605 d_1605 t_1605 hc) Y_X5_digest V_X5_digest l_L_175 ⟨(Nat.le_of_ble_eq_true rfl), (Nat.le_of_ble_eq_true rfl)⟩ (q0 := 0) rfl rfl rfl (ws' := (bw_lW cy b a o d_1605 t_1605 sl hn hs cs ln rp rn rt z rows asd sm buf bm th od om ow ca bo la pl to rd hh ou)) (bw_pl_x cy b a o d t sl hn hs cs ln rp rn rt z rows asd sm buf bm th od om ow ca bo la pl to rd hh ou) (bw_pl_x cy b a o d_1605 t_1605 sl hn hs cs ln rp rn rt z rows asd sm buf bm th od om ow ca bo la pl to rd hh ou).symm rfl rfl hl.1 (rest := []) (st1 := [.long r1605]) rfl rfl (Nat.le_of_ble_eq_true rfl) dL_law_1605 ⟨(by show _ ≤ 601024; omega), (by show _ ≤ 7293034; omega)⟩ (fun H locs hI => ?_)
      refine lv_aload_n hx hb dL_law_1608 rfl (lv_at hl 2 rfl) ?_
      obtain ⟨r1609, z_1609, asd_1609, th_1609, od_1609, om_1609, ow_1609, ca_1609, bo_1609, la_1609, hh_1609, hc, h⟩ := bw_b11_e h
      refine bw_callV S hK hZ hI (mX6_digest l G cy g a z rows asd sm buf bm th od om ow ca bo la pl to rd hh r1609 z_1609 asd_1609 th_1609 od_1609 om_1609 ow_1609 ca_1609 bo_1609 la_1609 hh_1609 hc) Y_X6_digest V_X6_digest l_L_179 ⟨(Nat.le_of_ble_eq_true rfl), (Nat.le_of_ble_eq_true rfl)⟩ (q0 := 0) rfl rfl rfl (ws' := (bw_lW cy b a o d_1605 t_1605 sl hn hs cs ln rp rn rt z_1609 rows asd_1609 sm buf bm th_1609 od_1609 om_1609 ow_1609 ca_1609 bo_1609 la_1609 pl to rd hh_1609 ou)) (bw_pl_m cy b a o d_1605 t_1605 sl hn hs cs ln rp rn rt z rows asd sm buf bm th od om ow ca bo la pl to rd hh ou) (bw_pl_m cy b a o d_1605 t_1605 sl hn hs cs ln rp rn rt z_1609 rows asd_1609 sm buf bm th_1609 od_1609 om_1609 ow_1609 ca_1609 bo_1609 la_1609 pl to rd hh_1609 ou).symm rfl rfl hl.1 (rest := [.long r1605]) (st1 := [.long r1609, .long r1605]) rfl rfl (Nat.le_of_ble_eq_true rfl) dL_law_1609 ⟨(by show _ ≤ 601024; omega), (by show _ ≤ 7293034; omega)⟩ (fun H locs hI => ?_)
      refine W.lcmp hx hb dL_law_1612 ?_
      refine lv_if_eq (tgt := 1618) hx hb dL_law_1613 (by decide) (fun c_1613 => ?_) (fun c_1613 => ?_)
      · rw [if_pos c_1613] at h
        refine W.widen (k := 601024 - 4 * n) (n := 7293034 - 24 * n) (by omega) (by omega) ?_
        exact jL_law_1618_w l hfl G cy g b a o bs sl_ xs S hr hlocks hK hZ hX hbl hbA hA9 n h9 d_1605 t_1605 sl hn hs cs ln rp rn rt z_1609 rows asd_1609 sm buf bm th_1609 od_1609 om_1609 ow_1609 ca_1609 bo_1609 la_1609 pl to rd hh_1609 ou x4 (lL_law_23 sl_ xs n) ih _ _ _ h hI (lv_sub hl [0,1,2,3,4] rfl)
      rw [if_neg c_1613] at h
      refine lv_iconst (v := 0) hx hb dL_law_1616 rfl ?_
      exact bw_none h
    rw [if_neg c_39_25] at h
    have t_0 := bw_nei c_39_0
    have t_1 := bw_nei c_39_1
    have t_2 := bw_nei c_39_2
    have t_3 := bw_nei c_39_3
    have t_4 := bw_nei c_39_4
    have t_5 := bw_nei c_39_5
    have t_6 := bw_nei c_39_6
    have t_7 := bw_nei c_39_7
    have t_8 := bw_nei c_39_8
    have t_9 := bw_nei c_39_9
    have t_10 := bw_nei c_39_10
    have t_11 := bw_nei c_39_11
    have t_12 := bw_nei c_39_12
    have t_13 := bw_nei c_39_13
    have t_14 := bw_nei c_39_14
    have t_15 := bw_nei c_39_15
    have t_16 := bw_nei c_39_16
    have t_17 := bw_nei c_39_17
    have t_18 := bw_nei c_39_18
    have t_19 := bw_nei c_39_19
    have t_20 := bw_nei c_39_20
    have t_21 := bw_nei c_39_21
    have t_22 := bw_nei c_39_22
    have t_23 := bw_nei c_39_23
    have t_24 := bw_nei c_39_24
    have t_25 := bw_nei c_39_25
    refine lv_tableOut (tgt := 1618) hx hb dL_law_39 (bw_out26 t_0 t_1 t_2 t_3 t_4 t_5 t_6 t_7 t_8 t_9 t_10 t_11 t_12 t_13 t_14 t_15 t_16 t_17 t_18 t_19 t_20 t_21 t_22 t_23 t_24 t_25) (by decide) ?_
    refine W.widen (k := 601024 - 4 * n) (n := 7293034 - 24 * n) (by omega) (by omega) ?_
    exact jL_law_1618_w l hfl G cy g b a o bs sl_ xs S hr hlocks hK hZ hX hbl hbA hA9 n h9 d t sl hn hs cs ln rp rn rt z rows asd sm buf bm th od om ow ca bo la pl to rd hh ou x4 (lL_law_23 sl_ xs n) ih _ _ _ h hI (lv_sub hl [0,1,2,3,4] rfl)
