/-! The frame that all contracts of this claim share: one word list, the nest words as a predicate of the state, two kinds of contract (a read: the heap stays; a write: the world becomes another), branches in one form. -/
theorem U_good : GoodIn wsL_law wsL_law := goodIn_sub (fun _ h => h) (by decide +kernel)
theorem gdC {w : Cond} (h : w ∈ wsL_law) : GoodIn wsL_law (w :: wsL_law) := fun v hv => by
  rcases List.mem_cons.mp hv with rfl | h2
  · exact U_good _ h
  · exact U_good _ h2
def isNest : Cond → Bool
  | .fieldLinkNest .. => true
  | .methodLinkNest .. => true
  | _ => false
def nwA (U : State) : Prop := ∀ w ∈ nwL, va_Nw w U
theorem nwL_nest : nwL.all isNest = true := by decide +kernel
theorem nwL_tab : nwL.all Cond.onTables = true := by decide +kernel
theorem nwA.warm {s U : State} (hW : s.WarmedH U.vm) (h : nwA s) : nwA U := by
  intro w hw
  have hn := List.all_eq_true.mp nwL_nest w hw
  have hz := h w hw
  cases w <;> first | exact va_Nw.warmF hW hz | exact va_Nw.warmM hW hz | (simp [isNest] at hn)
theorem nwA.calling {U : State} {g : JFrame} {mk : MethodId} {a : Array Value} (h : nwA U) : nwA (U.calling g mk a) := fun w hw => va_Nw.same (List.all_eq_true.mp nwL_tab w hw) (u := U) rfl (h w hw)
abbrev KT : Type := va_G × ClassId × ClassId × ClassId
abbrev tyA (k : KT) : List (ClassId × FieldType) := [(k.2.1, .int), (k.2.2.1, .long), (k.2.2.2, .boolean)]
def KK (k : KT) (U : State) : Prop := va_K k.1 vwCl (tyA k) U ∧ nwA U
theorem KK.warm {k : KT} {s U : State} (hW : s.WarmedH U.vm) (h : KK k s) : KK k U := ⟨va_K.moved hW.alike h.1, h.2.warm hW⟩
theorem KK.calling {k : KT} {U : State} {g : JFrame} {mk : MethodId} {a : Array Value} (h : KK k U) : KK k (U.calling g mk a) := ⟨va_K.moved (u := U) (U := U.calling g mk a) (Vm.Alike.refl U.vm) h.1, h.2.calling⟩
theorem KK.nf {k : KT} {s : State} {args : Array Value} (h : KK k s) {w : Cond} (hw : w ∈ nwL) : w.before args s = true := va_Nw.use (List.all_eq_true.mp nwL_tab w hw) (h.2 w hw)
abbrev rz (f n : Nat) : Room := { frames := f, cells := 0, slots := 0, locals := n }
def rQ (v : Value) : Array Value → State → Outcome → State → Prop := fun _ st o t => o = .returned (some v) ∧ t.heap = st.heap
def rB (k : KT) (ws : va_W) : State → Prop := fun U => va_P k.1 vwCl ws U.heap ∧ KK k U
/-- a READ: the heap stays, the answer is v -/
abbrev MR (l : Launch) (y : MethodName) (cc : ByteArray) (nL : Nat) (ret : Option FieldType) (rm : Room) (k : KT) (av : List Value) (ws : va_W) (v : Value) : Prop :=
  Met l y (Cond.code y cc nL ret :: wsL_law) rm (va_Pc av (rB k ws)) (rQ v) 0 0 (fun _ => False)
abbrev WR (p : Program) (l : Launch) (e : Env) (s : State) (m : MethodId) (below : List Frame) (meth : Method) (c : Code) (y : MethodName) (cc : ByteArray) (nL : Nat) (ret : Option FieldType) (rm : Room) (av : List Value) (v : Value) (g : JFrame) : Prop :=
  W p l e (headSpec (Cond.code y cc nL ret :: wsL_law) rm).room s m av.toArray below meth c s.heap [] 0 0 (MQ below (rQ v) av.toArray s 0 0 (fun _ => False)) g
theorem rB.blind {k : KT} {av : List Value} {ws : va_W} : FrameBlind (va_Pc av (rB k ws)) := fun _ _ _ _ q => ⟨q.1, q.2.1, q.2.2.calling⟩
theorem rB.at {k : KT} {av : List Value} {ws : va_W} {s : State} {H : Heap} (hP : va_P k.1 vwCl ws H) (hK : KK k s) : ∀ U : State, U.heap = H → s.WarmedH U.vm → va_Pc av (rB k ws) av.toArray U := fun U hU hW => ⟨rfl, by rw [hU]; exact hP, hK.warm hW⟩
/-- a WRITE: the world ws becomes ws', the answer is v -/
def wB (k : KT) (ws : va_W) (sz : Nat) : State → Prop := fun U => U.heap.size = sz ∧ va_P k.1 vwCl ws U.heap ∧ KK k U ∧ va_D (fun _ => True) ws
def wQ (v : Option Value) (k : KT) (ws' : va_W) (A : Nat → Prop) : Array Value → State → Outcome → State → Prop := fun _ st o t => (o = .returned v ∧ va_P k.1 vwCl ws' t.heap ∧ va_D A ws') ∧ va_F A st t
abbrev MW (l : Launch) (y : MethodName) (cc : ByteArray) (nL : Nat) (ret : Option FieldType) (rm : Room) (k : KT) (av : List Value) (ws : va_W) (v : Option Value) (ws' : va_W) : Prop :=
  ∀ sz : Nat, Met l y (Cond.code y cc nL ret :: wsL_law) rm (va_Pc av (wB k ws sz)) (wQ v k ws' (va_A ws sz)) 0 0 (va_A ws sz)
abbrev WW (p : Program) (l : Launch) (e : Env) (s : State) (m : MethodId) (below : List Frame) (meth : Method) (c : Code) (y : MethodName) (cc : ByteArray) (nL : Nat) (ret : Option FieldType) (rm : Room) (av : List Value) (v : Option Value) (k : KT) (ws' : va_W) (A : Nat → Prop) (H : Heap) (locs : List Loc) (g : JFrame) : Prop :=
  W p l e (headSpec (Cond.code y cc nL ret :: wsL_law) rm).room s m av.toArray below meth c H locs 0 0 (MQ below (wQ v k ws' A) av.toArray s 0 0 A) g
theorem wB.blind {k : KT} {av : List Value} {ws : va_W} {sz : Nat} : FrameBlind (va_Pc av (wB k ws sz)) := fun _ _ _ _ q => ⟨q.1, q.2.1, q.2.2.1, q.2.2.2.1.calling, q.2.2.2.2⟩
theorem wB.at {k : KT} {av : List Value} {ws : va_W} {A : Nat → Prop} {s : State} {H : Heap} (hP : va_P k.1 vwCl ws H) (hK : KK k s) (hD : va_D A ws) : ∀ U : State, U.heap = H → s.WarmedH U.vm → va_Pc av (wB k ws H.size) av.toArray U := fun U hU hW => ⟨rfl, by rw [hU], by rw [hU]; exact hP, hK.warm hW, hD.weaken (fun _ _ _ _ => trivial)⟩
section FR
variable {p : Program} {l : Launch} {e : Env} {R : Room} {s : State} {m : MethodId} {args : Array Value} {below : List Frame} {meth : Method} {c : Code} {H : Heap} {locs : List Loc} {cells slots : Nat} {Q : State → Prop}
theorem W.callRd {v : Value} {a : Array Value} {g : JFrame} {rest : List Value} (hr : va_Run p l e R s m args below meth c H locs cells slots 0 0 g rest (rQ v a) (fun _ => False))
    (kk : W p l e R s m args below meth c H locs cells slots Q { g with pc := g.pc + 3, stack := v :: rest }) : W p l e R s m args below meth c H locs cells slots Q g := by
  intro T hT X
  obtain ⟨v', st₀, t, T', L, h0, X', hL, e1, e2, ⟨hv, hh⟩, st⟩ := hr T hT X
  cases hv
  obtain ⟨t2, a1, b1⟩ := kk T' (by rw [e1, hh, h0]) (Stand.forget X' (fun q h => (hL q h).elim))
  exact ⟨t2, st t2 a1, b1⟩
theorem W.callWr {v : Option Value} {k : KT} {ws' : va_W} {A0 A1 : Nat → Prop} {H0 : Heap} {mc ms : Nat} {free : Addr → Prop} {a : Array Value} {g : JFrame} {rest : List Value} (hr : va_Run p l e R s m args below meth c H locs cells slots mc ms g rest (wQ v k ws' A1 a) free) (hS : va_S A0 H0 H locs) (hA : ∀ q, q < H.size → A1 q → A0 q) (hf : ∀ q, free q → A0 q)
    (kk : ∀ (H1 : Heap) (locs1 : List Loc), va_P k.1 vwCl ws' H1 → va_D A1 ws' → (∀ q : Nat, q < H.size → ¬ A1 q → H1[q]? = H[q]?) → va_S A0 H0 H1 locs1 → W p l e R s m args below meth c H1 locs1 (cells + mc) (slots + ms) Q { g with pc := g.pc + 3, stack := v.toList ++ rest }) : W p l e R s m args below meth c H locs cells slots Q g := by
  intro T hT X
  obtain ⟨v', st₀, t, T', L, h0, X', hL, e1, e2, ⟨⟨hv, hP, hD⟩, hz, hk⟩, st⟩ := hr T hT X
  cases hv
  rw [h0] at hz hk
  obtain ⟨t2, a1, b1⟩ := kk T'.heap (locs ++ L) (by rw [e1]; exact hP) hD (fun q h1 h2 => by rw [e1]; exact hk q h1 h2)
    ⟨by rw [e1]; exact Nat.le_trans hS.1 hz, fun q h1 h2 => by
      rw [e1]
      by_cases hq : A1 q
      · exact absurd (hA q (Nat.lt_of_lt_of_le h1 hS.1) hq) h2
      · rw [hk q (Nat.lt_of_lt_of_le h1 hS.1) hq]; exact hS.2.1 q h1 h2, fun q hq => by
      rcases List.mem_append.mp hq with h | h
      · exact hS.2.2 q h
      · exact hf _ (hL q h)⟩ T' rfl X'
  exact ⟨t2, st t2 a1, b1⟩
variable {y : MethodName} {bytes cc : ByteArray} {maxL nL n index fr lo pc : Nat} {ret : Option FieldType} {own C host : String} {b : Addr} {As rest st : List Value} {ls : Array Slot} {k : KT} {ws ws' : va_W} {v : Value} {vo : Option Value} {A : Nat → Prop} {H0 : Heap}
/-- what a caller knows of its own frame -/
abbrev CF (p : Program) (m : MethodId) (c : Code) (cc : ByteArray) (nL : Nat) (s : State) (args : Array Value) (own : String) : Prop := CallFix p m c cc nL s args wsL_law own
abbrev DN (y : MethodName) (n : Nat) : Prop := y.cls ≠ "java/lang/invoke/MethodHandle" ∧ y.cls ≠ "java/lang/invoke/VarHandle" ∧ (parseMethodDescriptor y.desc).map (fun d => d.parameters.length) = some n
abbrev RM (R : Room) (fr lo maxL : Nat) : Prop := fr + 1 ≤ R.frames ∧ 8 + (maxL + 11) + lo ≤ R.locals
theorem cB (S : CF p m c cc nL s args own) (hcode : Cond.code y bytes maxL ret ∈ wsL_law) (hini : Cond.initialized y.cls ∈ wsL_law) (hl : Cond.methodLink own index y ∈ wsL_law) (hd : DN y n) (hR : RM R fr lo maxL) : CallB R s args own index y bytes maxL ret (Cond.code y bytes maxL ret :: wsL_law) (rz fr lo) 0 0 n :=
  callB_of n S.2.2.2.2 (gdC hcode) rfl rfl rfl (S.2.2.2.2 _ hini) (S.2.2.2.2 _ hl) hd hR
theorem cN (S : CF p m c cc nL s args own) (hK : KK k s) (hcode : Cond.code y bytes maxL ret ∈ wsL_law) (hini : Cond.initialized y.cls ∈ wsL_law) (hl : Cond.methodLinkNest own index y host ∈ nwL) (hd : DN y n) (hR : RM R fr lo maxL) : va_CN R s args own index y host bytes maxL ret (Cond.code y bytes maxL ret :: wsL_law) (rz fr lo) 0 0 n :=
  va_cnB n S.2.2.2.2 (gdC hcode) rfl rfl rfl (hK.2 _ hl) (S.2.2.2.2 _ hini) hd hR
/-- reads: a static of the own class or the JDK's; of a nest mate; an instance method of the own class; of a nest mate -/
theorem rcS (S : CF p m c cc nL s args own) (hM : MR l y bytes maxL ret (rz fr lo) k As ws v) (hP : va_P k.1 vwCl ws H) (hK : KK k s) (hcode : Cond.code y bytes maxL ret ∈ wsL_law) (hini : Cond.initialized y.cls ∈ wsL_law) (hl : Cond.methodLink own index y ∈ wsL_law) (hs : Cond.static y ∈ wsL_law) (hd : DN y n) (hn : As.length = n) (hR : RM R fr lo maxL) (hf : cells ≤ R.cells ∧ slots ≤ R.slots) (hsz : ls.size = nL) (hst : st = As.reverse ++ rest) (hW : (rest.map fun v => v.category).sum ≤ 8) (hdg : decode cc pc = .ok (.invokestatic index, 3))
    (kk : W p l e R s m args below meth c H locs cells slots Q (F0 m (pc + 3) ls (v :: rest))) : W p l e R s m args below meth c H locs cells slots Q (F0 m pc ls st) :=
  W.callRd (va_runS S hM ⟨cB S hcode hini hl hd hR, S.2.2.2.2 _ hs⟩ ⟨rB.blind, rB.at hP hK⟩ rfl hn hsz hst (lv_room hW) hdg hf) kk
theorem rcSN (S : CF p m c cc nL s args own) (hM : MR l y bytes maxL ret (rz fr lo) k As ws v) (hP : va_P k.1 vwCl ws H) (hK : KK k s) (hcode : Cond.code y bytes maxL ret ∈ wsL_law) (hini : Cond.initialized y.cls ∈ wsL_law) (hl : Cond.methodLinkNest own index y host ∈ nwL) (hs : Cond.static y ∈ wsL_law) (hd : DN y n) (hn : As.length = n) (hR : RM R fr lo maxL) (hf : cells ≤ R.cells ∧ slots ≤ R.slots) (hsz : ls.size = nL) (hst : st = As.reverse ++ rest) (hW : (rest.map fun v => v.category).sum ≤ 8) (hdg : decode cc pc = .ok (.invokestatic index, 3))
    (kk : W p l e R s m args below meth c H locs cells slots Q (F0 m (pc + 3) ls (v :: rest))) : W p l e R s m args below meth c H locs cells slots Q (F0 m pc ls st) :=
  W.callRd (va_runSN S hM ⟨cN S hK hcode hini hl hd hR, S.2.2.2.2 _ hs, trivial⟩ ⟨rB.blind, rB.at hP hK⟩ rfl hn hsz hst (lv_room hW) hdg hf) kk
theorem rcV (S : CF p m c cc nL s args own) (hM : MR l y bytes maxL ret (rz fr lo) k (.ref b :: As) ws v) (hP : va_P k.1 vwCl ws H) (hK : KK k s) (q0 : Nat) {ci : Nat} {q : vw_C} {fs : List Value} (hc : vwCl[ci]? = some q) (he : ws[q0]? = some (b, .inr (ci, fs))) (hy : q.1 = C) (hcode : Cond.code y bytes maxL ret ∈ wsL_law) (hini : Cond.initialized y.cls ∈ wsL_law) (hl : Cond.methodLink own index y ∈ wsL_law) (hi : Cond.instanceMethod y ∈ wsL_law) (hse : Cond.selects C y y ∈ wsL_law) (hd : DN y n) (hn : As.length = n) (hR : RM R fr lo maxL) (hf : cells ≤ R.cells ∧ slots ≤ R.slots) (hsz : ls.size = nL) (hst : st = As.reverse ++ .ref b :: rest) (hW : (rest.map fun v => v.category).sum ≤ 8) (hdg : decode cc pc = .ok (.invokevirtual index, 3))
    (kk : W p l e R s m args below meth c H locs cells slots Q (F0 m (pc + 3) ls (v :: rest))) : W p l e R s m args below meth c H locs cells slots Q (F0 m pc ls st) :=
  W.callRd (va_runV S hM ⟨cB S hcode hini hl hd hR, S.2.2.2.2 _ hi, S.2.2.2.2 _ hse⟩ ⟨rB.blind, hy ▸ va_recv hK.1 hP hc he, rB.at hP hK⟩ rfl hn hsz hst (lv_room hW) hdg hf) kk
theorem rcVN (S : CF p m c cc nL s args own) (hM : MR l y bytes maxL ret (rz fr lo) k (.ref b :: As) ws v) (hP : va_P k.1 vwCl ws H) (hK : KK k s) (q0 : Nat) {ci : Nat} {q : vw_C} {fs : List Value} (hc : vwCl[ci]? = some q) (he : ws[q0]? = some (b, .inr (ci, fs))) (hy : q.1 = C) (hcode : Cond.code y bytes maxL ret ∈ wsL_law) (hini : Cond.initialized y.cls ∈ wsL_law) (hl : Cond.methodLinkNest own index y host ∈ nwL) (hi : Cond.instanceMethod y ∈ wsL_law) (hse : Cond.selects C y y ∈ wsL_law) (hd : DN y n) (hn : As.length = n) (hR : RM R fr lo maxL) (hf : cells ≤ R.cells ∧ slots ≤ R.slots) (hsz : ls.size = nL) (hst : st = As.reverse ++ .ref b :: rest) (hW : (rest.map fun v => v.category).sum ≤ 8) (hdg : decode cc pc = .ok (.invokevirtual index, 3))
    (kk : W p l e R s m args below meth c H locs cells slots Q (F0 m (pc + 3) ls (v :: rest))) : W p l e R s m args below meth c H locs cells slots Q (F0 m pc ls st) :=
  W.callRd (va_runVN S hM ⟨cN S hK hcode hini hl hd hR, S.2.2.2.2 _ hi, S.2.2.2.2 _ hse⟩ ⟨rB.blind, hy ▸ va_recv hK.1 hP hc he, rB.at hP hK⟩ rfl hn hsz hst (lv_room hW) hdg hf) kk
theorem fA (hD : va_D A ws) (hS : va_S A H0 H locs) (hA : ∀ q, H0.size ≤ q → A q) : ∀ q, va_A ws H.size q → A q := by
  intro q h
  rcases h with ⟨k, e, h⟩ | h
  · exact hD.2 k _ h
  · exact hA q (Nat.le_trans hS.1 h)
/-- writes over the whole world of the caller: an instance method of the own class; of a nest mate -/
theorem wcV (S : CF p m c cc nL s args own) (hM : MW l y bytes maxL ret (rz fr lo) k (.ref b :: As) ws vo ws') (hP : va_P k.1 vwCl ws H) (hD : va_D A ws) (hS : va_S A H0 H locs) (hA : ∀ q, H0.size ≤ q → A q) (hK : KK k s) (q0 : Nat) {ci : Nat} {q : vw_C} {fs : List Value} (hc : vwCl[ci]? = some q) (he : ws[q0]? = some (b, .inr (ci, fs))) (hy : q.1 = C) (hcode : Cond.code y bytes maxL ret ∈ wsL_law) (hini : Cond.initialized y.cls ∈ wsL_law) (hl : Cond.methodLink own index y ∈ wsL_law) (hi : Cond.instanceMethod y ∈ wsL_law) (hse : Cond.selects C y y ∈ wsL_law) (hd : DN y n) (hn : As.length = n) (hR : RM R fr lo maxL) (hf : cells ≤ R.cells ∧ slots ≤ R.slots) (hsz : ls.size = nL) (hst : st = As.reverse ++ .ref b :: rest) (hW : (rest.map fun v => v.category).sum ≤ 8) (hdg : decode cc pc = .ok (.invokevirtual index, 3))
    (kk : ∀ (H1 : Heap) (locs1 : List Loc), va_P k.1 vwCl ws' H1 → va_D A ws' → va_S A H0 H1 locs1 → W p l e R s m args below meth c H1 locs1 cells slots Q (F0 m (pc + 3) ls (vo.toList ++ rest))) : W p l e R s m args below meth c H locs cells slots Q (F0 m pc ls st) :=
  W.callWr (va_runV S (hM H.size) ⟨cB S hcode hini hl hd hR, S.2.2.2.2 _ hi, S.2.2.2.2 _ hse⟩ ⟨wB.blind, hy ▸ va_recv hK.1 hP hc he, wB.at hP hK hD⟩ rfl hn hsz hst (lv_room hW) hdg hf) hS (fun q _ h => fA hD hS hA q h) (fA hD hS hA) (fun H1 locs1 h1 h2 _ h4 => kk H1 locs1 h1 (h2.weaken (fun _ q _ h => fA hD hS hA q.1 h)) h4)
theorem wcVN (S : CF p m c cc nL s args own) (hM : MW l y bytes maxL ret (rz fr lo) k (.ref b :: As) ws vo ws') (hP : va_P k.1 vwCl ws H) (hD : va_D A ws) (hS : va_S A H0 H locs) (hA : ∀ q, H0.size ≤ q → A q) (hK : KK k s) (q0 : Nat) {ci : Nat} {q : vw_C} {fs : List Value} (hc : vwCl[ci]? = some q) (he : ws[q0]? = some (b, .inr (ci, fs))) (hy : q.1 = C) (hcode : Cond.code y bytes maxL ret ∈ wsL_law) (hini : Cond.initialized y.cls ∈ wsL_law) (hl : Cond.methodLinkNest own index y host ∈ nwL) (hi : Cond.instanceMethod y ∈ wsL_law) (hse : Cond.selects C y y ∈ wsL_law) (hd : DN y n) (hn : As.length = n) (hR : RM R fr lo maxL) (hf : cells ≤ R.cells ∧ slots ≤ R.slots) (hsz : ls.size = nL) (hst : st = As.reverse ++ .ref b :: rest) (hW : (rest.map fun v => v.category).sum ≤ 8) (hdg : decode cc pc = .ok (.invokevirtual index, 3))
    (kk : ∀ (H1 : Heap) (locs1 : List Loc), va_P k.1 vwCl ws' H1 → va_D A ws' → va_S A H0 H1 locs1 → W p l e R s m args below meth c H1 locs1 cells slots Q (F0 m (pc + 3) ls (vo.toList ++ rest))) : W p l e R s m args below meth c H locs cells slots Q (F0 m pc ls st) :=
  W.callWr (va_runVN S (hM H.size) ⟨cN S hK hcode hini hl hd hR, S.2.2.2.2 _ hi, S.2.2.2.2 _ hse⟩ ⟨wB.blind, hy ▸ va_recv hK.1 hP hc he, wB.at hP hK hD⟩ rfl hn hsz hst (lv_room hW) hdg hf) hS (fun q _ h => fA hD hS hA q h) (fA hD hS hA) (fun H1 locs1 h1 h2 _ h4 => kk H1 locs1 h1 (h2.weaken (fun _ q _ h => fA hD hS hA q.1 h)) h4)
/-- a write of a nest mate over a part wc of the caller's world: isC its places, isR the others; behind it the world stands in the caller's order again, wn -/
theorem wcP (S : CF p m c cc nL s args own) {wc wr wc' wn : va_W} (hM : MW l y bytes maxL ret (rz fr lo) k (.ref b :: As) wc vo wc') (hP : va_P k.1 vwCl ws H) (hD : va_D A ws) (hS : va_S A H0 H locs) (hA : ∀ q, H0.size ≤ q → A q) (hK : KK k s) (isC isR isN : List Nat) (hC : isC.map (fun i => ws[i]?) = wc.map some) (hRr : isR.map (fun i => ws[i]?) = wr.map some) (hnd : va_nd isR = true) (hndC : va_nd isC = true) (hdis : ∀ i ∈ isR, i ∉ isC) (hPn : isN.filterMap (fun i => (wr ++ wc')[i]?) = wn) (hDn : isN.map (fun i => (wr ++ wc')[i]?) = wn.map some) (hndN : va_nd isN = true) (q0 : Nat) {ci : Nat} {q : vw_C} {fs : List Value} (hc : vwCl[ci]? = some q) (he : ws[q0]? = some (b, .inr (ci, fs))) (hy : q.1 = C) (hcode : Cond.code y bytes maxL ret ∈ wsL_law) (hini : Cond.initialized y.cls ∈ wsL_law) (hl : Cond.methodLinkNest own index y host ∈ nwL) (hi : Cond.instanceMethod y ∈ wsL_law) (hse : Cond.selects C y y ∈ wsL_law) (hd : DN y n) (hn : As.length = n) (hR : RM R fr lo maxL) (hf : cells ≤ R.cells ∧ slots ≤ R.slots) (hsz : ls.size = nL) (hst : st = As.reverse ++ .ref b :: rest) (hW : (rest.map fun v => v.category).sum ≤ 8) (hdg : decode cc pc = .ok (.invokevirtual index, 3))
    (kk : ∀ (H1 : Heap) (locs1 : List Loc), va_P k.1 vwCl wn H1 → va_D A wn → va_S A H0 H1 locs1 → W p l e R s m args below meth c H1 locs1 cells slots Q (F0 m (pc + 3) ls (vo.toList ++ rest))) : W p l e R s m args below meth c H locs cells slots Q (F0 m pc ls st) := by
  have hF := va_free (wc := wc) hD hS hA isC hC
  have hPc : va_P k.1 vwCl wc H := by
    intro j x hx
    have h1 : (isC.map (fun i => ws[i]?))[j]? = some (some x) := by rw [hC, List.getElem?_map, hx]; rfl
    rw [List.getElem?_map] at h1
    cases h2 : isC[j]? with
    | none => rw [h2] at h1; cases h1
    | some i => rw [h2] at h1; exact hP i x (Option.some.inj h1)
  have hDc : va_D A wc := hD.sub isC hndC hC
  refine W.callWr (va_runVN S (hM H.size) ⟨cN S hK hcode hini hl hd hR, S.2.2.2.2 _ hi, S.2.2.2.2 _ hse⟩ ⟨wB.blind, hy ▸ va_recv hK.1 hP hc he, wB.at hPc hK hDc⟩ rfl hn hsz hst (lv_room hW) hdg hf) hS (fun q _ h => hF q h) hF (fun H1 locs1 h1 h2 h3 h4 => ?_)
  obtain ⟨hP', hD'⟩ := va_join (wr := wr) (w1 := wc') hP hD isC isR hC hRr hnd hdis h3 hF h1 h2
  exact kk H1 locs1 (hP'.sub isN hPn) (hD'.sub isN hndN hDn) h4
/-! branches, in one form: x < y, or x = y -/
theorem xb_lt (hx : p.tables.exec = Jvm.exec) (hb : c.code = cc) {x y : Int32} {off : Int} {tgt : Nat} (hdg : decode cc pc = .ok (.if_icmp .lt off, 3)) (ht : (pc : Int) + off = (tgt : Int)) (kt : x < y → W p l e R s m args below meth c H locs cells slots Q (F0 m tgt ls rest)) (kf : ¬ x < y → W p l e R s m args below meth c H locs cells slots Q (F0 m (pc + 3) ls rest)) : W p l e R s m args below meth c H locs cells slots Q (F0 m pc ls (.int y :: .int x :: rest)) := lv_icmp_lt hx hb hdg ht kt kf
theorem xb_ge (hx : p.tables.exec = Jvm.exec) (hb : c.code = cc) {x y : Int32} {off : Int} {tgt : Nat} (hdg : decode cc pc = .ok (.if_icmp .ge off, 3)) (ht : (pc : Int) + off = (tgt : Int)) (kt : ¬ x < y → W p l e R s m args below meth c H locs cells slots Q (F0 m tgt ls rest)) (kf : x < y → W p l e R s m args below meth c H locs cells slots Q (F0 m (pc + 3) ls rest)) : W p l e R s m args below meth c H locs cells slots Q (F0 m pc ls (.int y :: .int x :: rest)) := lv_icmp_ge hx hb hdg ht (fun h => kt (Int32.not_lt.mpr h)) (fun h => kf (Int32.not_le.mp h))
theorem xb_gt (hx : p.tables.exec = Jvm.exec) (hb : c.code = cc) {x y : Int32} {off : Int} {tgt : Nat} (hdg : decode cc pc = .ok (.if_icmp .gt off, 3)) (ht : (pc : Int) + off = (tgt : Int)) (kt : y < x → W p l e R s m args below meth c H locs cells slots Q (F0 m tgt ls rest)) (kf : ¬ y < x → W p l e R s m args below meth c H locs cells slots Q (F0 m (pc + 3) ls rest)) : W p l e R s m args below meth c H locs cells slots Q (F0 m pc ls (.int y :: .int x :: rest)) := lv_icmp_gt hx hb hdg ht kt kf
theorem xb_le (hx : p.tables.exec = Jvm.exec) (hb : c.code = cc) {x y : Int32} {off : Int} {tgt : Nat} (hdg : decode cc pc = .ok (.if_icmp .le off, 3)) (ht : (pc : Int) + off = (tgt : Int)) (kt : ¬ y < x → W p l e R s m args below meth c H locs cells slots Q (F0 m tgt ls rest)) (kf : y < x → W p l e R s m args below meth c H locs cells slots Q (F0 m (pc + 3) ls rest)) : W p l e R s m args below meth c H locs cells slots Q (F0 m pc ls (.int y :: .int x :: rest)) := lv_icmp_le hx hb hdg ht (fun h => kt (Int32.not_lt.mpr h)) (fun h => kf (Int32.not_le.mp h))
theorem xz_ge (hx : p.tables.exec = Jvm.exec) (hb : c.code = cc) {x : Int32} {off : Int} {tgt : Nat} (hdg : decode cc pc = .ok (.ifCond .ge off, 3)) (ht : (pc : Int) + off = (tgt : Int)) (kt : ¬ x < 0 → W p l e R s m args below meth c H locs cells slots Q (F0 m tgt ls rest)) (kf : x < 0 → W p l e R s m args below meth c H locs cells slots Q (F0 m (pc + 3) ls rest)) : W p l e R s m args below meth c H locs cells slots Q (F0 m pc ls (.int x :: rest)) := lv_if_ge hx hb hdg ht (fun h => kt (Int32.not_lt.mpr h)) (fun h => kf (Int32.not_le.mp h))
theorem xz_le (hx : p.tables.exec = Jvm.exec) (hb : c.code = cc) {x : Int32} {off : Int} {tgt : Nat} (hdg : decode cc pc = .ok (.ifCond .le off, 3)) (ht : (pc : Int) + off = (tgt : Int)) (kt : ¬ 0 < x → W p l e R s m args below meth c H locs cells slots Q (F0 m tgt ls rest)) (kf : 0 < x → W p l e R s m args below meth c H locs cells slots Q (F0 m (pc + 3) ls rest)) : W p l e R s m args below meth c H locs cells slots Q (F0 m pc ls (.int x :: rest)) := lv_if_le hx hb hdg ht (fun h => kt (Int32.not_lt.mpr h)) (fun h => kf (Int32.not_le.mp h))
/-- a compare of longs and the branch behind it -/
theorem xl_lt (hx : p.tables.exec = Jvm.exec) (hb : c.code = cc) {x y : Int64} {off : Int} {tgt : Nat} (hd1 : decode cc pc = .ok (.lcmp, 1)) (hdg : decode cc (pc + 1) = .ok (.ifCond .lt off, 3)) (ht : ((pc + 1 : Nat) : Int) + off = (tgt : Int)) (kt : x < y → W p l e R s m args below meth c H locs cells slots Q (F0 m tgt ls rest)) (kf : ¬ x < y → W p l e R s m args below meth c H locs cells slots Q (F0 m (pc + 4) ls rest)) : W p l e R s m args below meth c H locs cells slots Q (F0 m pc ls (.long y :: .long x :: rest)) := W.lcmp hx hb hd1 (lv_if_lt hx hb hdg ht (fun h => kt ((lg_cmp_lt x y).mp h)) (fun h => kf (fun q => h ((lg_cmp_lt x y).mpr q))))
theorem xl_ge (hx : p.tables.exec = Jvm.exec) (hb : c.code = cc) {x y : Int64} {off : Int} {tgt : Nat} (hd1 : decode cc pc = .ok (.lcmp, 1)) (hdg : decode cc (pc + 1) = .ok (.ifCond .ge off, 3)) (ht : ((pc + 1 : Nat) : Int) + off = (tgt : Int)) (kt : ¬ x < y → W p l e R s m args below meth c H locs cells slots Q (F0 m tgt ls rest)) (kf : x < y → W p l e R s m args below meth c H locs cells slots Q (F0 m (pc + 4) ls rest)) : W p l e R s m args below meth c H locs cells slots Q (F0 m pc ls (.long y :: .long x :: rest)) := W.lcmp hx hb hd1 (xz_ge hx hb hdg ht (fun h => kt (fun q => h ((lg_cmp_lt x y).mpr q))) (fun h => kf ((lg_cmp_lt x y).mp h)))
theorem xl_gt (hx : p.tables.exec = Jvm.exec) (hb : c.code = cc) {x y : Int64} {off : Int} {tgt : Nat} (hd1 : decode cc pc = .ok (.lcmp, 1)) (hdg : decode cc (pc + 1) = .ok (.ifCond .gt off, 3)) (ht : ((pc + 1 : Nat) : Int) + off = (tgt : Int)) (kt : y < x → W p l e R s m args below meth c H locs cells slots Q (F0 m tgt ls rest)) (kf : ¬ y < x → W p l e R s m args below meth c H locs cells slots Q (F0 m (pc + 4) ls rest)) : W p l e R s m args below meth c H locs cells slots Q (F0 m pc ls (.long y :: .long x :: rest)) := W.lcmp hx hb hd1 (lv_if_gt hx hb hdg ht (fun h => kt ((lg_cmp_gt x y).mp h)) (fun h => kf (fun q => h ((lg_cmp_gt x y).mpr q))))
theorem xl_le (hx : p.tables.exec = Jvm.exec) (hb : c.code = cc) {x y : Int64} {off : Int} {tgt : Nat} (hd1 : decode cc pc = .ok (.lcmp, 1)) (hdg : decode cc (pc + 1) = .ok (.ifCond .le off, 3)) (ht : ((pc + 1 : Nat) : Int) + off = (tgt : Int)) (kt : ¬ y < x → W p l e R s m args below meth c H locs cells slots Q (F0 m tgt ls rest)) (kf : y < x → W p l e R s m args below meth c H locs cells slots Q (F0 m (pc + 4) ls rest)) : W p l e R s m args below meth c H locs cells slots Q (F0 m pc ls (.long y :: .long x :: rest)) := W.lcmp hx hb hd1 (xz_le hx hb hdg ht (fun h => kt (fun q => h ((lg_cmp_gt x y).mpr q))) (fun h => kf ((lg_cmp_gt x y).mp h)))
theorem xl_eq (hx : p.tables.exec = Jvm.exec) (hb : c.code = cc) {x y : Int64} {off : Int} {tgt : Nat} (hd1 : decode cc pc = .ok (.lcmp, 1)) (hdg : decode cc (pc + 1) = .ok (.ifCond .eq off, 3)) (ht : ((pc + 1 : Nat) : Int) + off = (tgt : Int)) (kt : x = y → W p l e R s m args below meth c H locs cells slots Q (F0 m tgt ls rest)) (kf : ¬ x = y → W p l e R s m args below meth c H locs cells slots Q (F0 m (pc + 4) ls rest)) : W p l e R s m args below meth c H locs cells slots Q (F0 m pc ls (.long y :: .long x :: rest)) := W.lcmp hx hb hd1 (lv_if_eq hx hb hdg ht (fun h => kt ((lg_cmp_eq x y).mp h)) (fun h => kf (fun q => h ((lg_cmp_eq x y).mpr q))))
theorem xl_ne (hx : p.tables.exec = Jvm.exec) (hb : c.code = cc) {x y : Int64} {off : Int} {tgt : Nat} (hd1 : decode cc pc = .ok (.lcmp, 1)) (hdg : decode cc (pc + 1) = .ok (.ifCond .ne off, 3)) (ht : ((pc + 1 : Nat) : Int) + off = (tgt : Int)) (kt : ¬ x = y → W p l e R s m args below meth c H locs cells slots Q (F0 m tgt ls rest)) (kf : x = y → W p l e R s m args below meth c H locs cells slots Q (F0 m (pc + 4) ls rest)) : W p l e R s m args below meth c H locs cells slots Q (F0 m pc ls (.long y :: .long x :: rest)) := W.lcmp hx hb hd1 (lv_if_ne hx hb hdg ht (fun h => kt (fun q => h ((lg_cmp_eq x y).mpr q))) (fun h => kf ((lg_cmp_eq x y).mp h)))
end FR
/-! rows of arrays, by a Nat place -/
section FA
variable {p : Program} {l : Launch} {e : Env} {R : Room} {s : State} {m : MethodId} {args : Array Value} {below : List Frame} {meth : Method} {c : Code} {H : Heap} {locs : List Loc} {cells slots : Nat} {Q : State → Prop}
variable {cc : ByteArray} {pc : Nat} {ls : Array Slot} {rest : List Value} {D : va_G} {cl : List vw_C} {A : Nat → Prop} {a : Nat} {tys : List (ClassId × FieldType)} {ws : va_W} {H0 : Heap}
theorem xa_lald (hx : p.tables.exec = Jvm.exec) (hb : c.code = cc) (hK : va_K D cl tys s) (hP : va_P D cl ws H) (q0 t0 : Nat) {cA : ClassId} {n : Nat} {f : Nat → Int64} (ha : ws[q0]? = some (a, .inl (cA, n, .inr (.inl f)))) (ht : tys[t0]? = some (cA, .long)) {i : Int32} {j : Nat} (hi : i = nI j) (hj : j < n) (hn : n < 2 ^ 31) (hdg : decode cc pc = .ok (.laload, 1))
    (kk : W p l e R s m args below meth c H locs cells slots Q (F0 m (pc + 1) ls (.long (f j) :: rest))) : W p l e R s m args below meth c H locs cells slots Q (F0 m pc ls (.int i :: .ref a :: rest)) := by
  subst hi
  exact va_lald hx hb hK hP q0 t0 ha ht (vp_in_nI hj hn) hdg (by rw [nI_clamp (Nat.lt_trans hj hn)]; exact kk)
theorem xa_iald (hx : p.tables.exec = Jvm.exec) (hb : c.code = cc) (hK : va_K D cl tys s) (hP : va_P D cl ws H) (q0 t0 : Nat) {cA : ClassId} {n : Nat} {f : Nat → Int32} (ha : ws[q0]? = some (a, .inl (cA, n, .inl f))) (ht : tys[t0]? = some (cA, .int)) {i : Int32} {j : Nat} (hi : i = nI j) (hj : j < n) (hn : n < 2 ^ 31) (hdg : decode cc pc = .ok (.iaload, 1))
    (kk : W p l e R s m args below meth c H locs cells slots Q (F0 m (pc + 1) ls (.int (f j) :: rest))) : W p l e R s m args below meth c H locs cells slots Q (F0 m pc ls (.int i :: .ref a :: rest)) := by
  subst hi
  exact va_iald hx hb hK hP q0 t0 ha ht (vp_in_nI hj hn) hdg (by rw [nI_clamp (Nat.lt_trans hj hn)]; exact kk)
theorem xa_zald (hx : p.tables.exec = Jvm.exec) (hb : c.code = cc) (hK : va_K D cl tys s) (hP : va_P D cl ws H) (q0 t0 : Nat) {cA : ClassId} {n : Nat} {f : Nat → Int32} (ha : ws[q0]? = some (a, .inl (cA, n, .inl f))) (ht : tys[t0]? = some (cA, .boolean)) {i : Int32} {j : Nat} (hi : i = nI j) (hj : j < n) (hn : n < 2 ^ 31) (hdg : decode cc pc = .ok (.baload, 1))
    (kk : W p l e R s m args below meth c H locs cells slots Q (F0 m (pc + 1) ls (.int (f j) :: rest))) : W p l e R s m args below meth c H locs cells slots Q (F0 m pc ls (.int i :: .ref a :: rest)) := by
  subst hi
  exact va_zald hx hb hK hP q0 t0 ha ht (vp_in_nI hj hn) hdg (by rw [nI_clamp (Nat.lt_trans hj hn)]; exact kk)
theorem xa_last (hx : p.tables.exec = Jvm.exec) (hb : c.code = cc) (hK : va_K D cl tys s) (hP : va_P D cl ws H) (hD : va_D A ws) (hS : va_S A H0 H locs) (q0 t0 : Nat) {cA : ClassId} {n : Nat} {f : Nat → Int64} (ha : ws[q0]? = some (a, .inl (cA, n, .inr (.inl f)))) (ht : tys[t0]? = some (cA, .long)) {i : Int32} {x : Int64} {j : Nat} (hi : i = nI j) (hj : j < n) (hn : n < 2 ^ 31) (hdg : decode cc pc = .ok (.lastore, 1))
    (kk : ∀ (H1 : Heap) (locs1 : List Loc), va_P D cl (ws.set q0 (a, .inl (cA, n, .inr (.inl (vp_updL f j x))))) H1 → va_D A (ws.set q0 (a, .inl (cA, n, .inr (.inl (vp_updL f j x))))) → va_S A H0 H1 locs1 → W p l e R s m args below meth c H1 locs1 cells slots Q (F0 m (pc + 1) ls rest)) : W p l e R s m args below meth c H locs cells slots Q (F0 m pc ls (.long x :: .int i :: .ref a :: rest)) := by
  subst hi
  exact va_last hx hb hK hP hD hS q0 t0 ha ht (vp_in_nI hj hn) hdg (by rw [nI_clamp (Nat.lt_trans hj hn)]; exact kk)
theorem xa_iast (hx : p.tables.exec = Jvm.exec) (hb : c.code = cc) (hK : va_K D cl tys s) (hP : va_P D cl ws H) (hD : va_D A ws) (hS : va_S A H0 H locs) (q0 t0 : Nat) {cA : ClassId} {n : Nat} {f : Nat → Int32} (ha : ws[q0]? = some (a, .inl (cA, n, .inl f))) (ht : tys[t0]? = some (cA, .int)) {i x : Int32} {j : Nat} (hi : i = nI j) (hj : j < n) (hn : n < 2 ^ 31) (hdg : decode cc pc = .ok (.iastore, 1))
    (kk : ∀ (H1 : Heap) (locs1 : List Loc), va_P D cl (ws.set q0 (a, .inl (cA, n, .inl (upd f j x)))) H1 → va_D A (ws.set q0 (a, .inl (cA, n, .inl (upd f j x)))) → va_S A H0 H1 locs1 → W p l e R s m args below meth c H1 locs1 cells slots Q (F0 m (pc + 1) ls rest)) : W p l e R s m args below meth c H locs cells slots Q (F0 m pc ls (.int x :: .int i :: .ref a :: rest)) := by
  subst hi
  exact va_iast hx hb hK hP hD hS q0 t0 ha ht (vp_in_nI hj hn) hdg (by rw [nI_clamp (Nat.lt_trans hj hn)]; exact kk)
theorem xa_zast (hx : p.tables.exec = Jvm.exec) (hb : c.code = cc) (hK : va_K D cl tys s) (hP : va_P D cl ws H) (hD : va_D A ws) (hS : va_S A H0 H locs) (q0 t0 : Nat) {cA : ClassId} {n : Nat} {f : Nat → Int32} (ha : ws[q0]? = some (a, .inl (cA, n, .inl f))) (ht : tys[t0]? = some (cA, .boolean)) {i x : Int32} {j : Nat} (hi : i = nI j) (hj : j < n) (hn : n < 2 ^ 31) (hz : vp_nar .boolean x = x) (hdg : decode cc pc = .ok (.bastore, 1))
    (kk : ∀ (H1 : Heap) (locs1 : List Loc), va_P D cl (ws.set q0 (a, .inl (cA, n, .inl (upd f j x)))) H1 → va_D A (ws.set q0 (a, .inl (cA, n, .inl (upd f j x)))) → va_S A H0 H1 locs1 → W p l e R s m args below meth c H1 locs1 cells slots Q (F0 m (pc + 1) ls rest)) : W p l e R s m args below meth c H locs cells slots Q (F0 m pc ls (.int x :: .int i :: .ref a :: rest)) := by
  subst hi
  exact va_zast hx hb hK hP hD hS q0 t0 ha ht (vp_in_nI hj hn) hdg (by rw [nI_clamp (Nat.lt_trans hj hn), hz]; exact kk)
end FA
def iu (x y : Int32) : Int32 := (x.toUInt32 >>> (y.toUInt32 &&& Int32.toUInt32 31)).toInt32
def lu (x : Int64) (y : Int32) : Int64 := (x.toUInt64 >>> (y.toInt64.toUInt64 &&& Int64.toUInt64 63)).toInt64
def lh (x : Int64) (y : Int32) : Int64 := x <<< (y.toInt64 &&& 63)
