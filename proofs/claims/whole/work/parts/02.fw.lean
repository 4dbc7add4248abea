/-! WORLDS THAT ARE FUNCTIONS: w says of an address what its cell holds; every contract gets and gives the whole world, so that no world is cut or joined. B: all cells of the world lie from B on; n: the heap's size (a new cell is at n). -/
abbrev fw_W : Type := Nat → Option va_E
def fw_up (w : fw_W) (a : Nat) (e : va_E) : fw_W := fun q => if q = a then some e else w q
theorem fw_same (w : fw_W) (a : Nat) (e : va_E) : fw_up w a e a = some e := by simp [fw_up]
theorem fw_ne {w : fw_W} {a b : Nat} {e : va_E} (h : b ≠ a) : fw_up w a e b = w b := by simp [fw_up, h]
theorem fw_at {w : fw_W} {a b : Nat} {e : va_E} {x : Option va_E} (h : b ≠ a) (hw : w b = x) : fw_up w a e b = x := by rw [fw_ne h]; exact hw
theorem fw_twice (w : fw_W) (a : Nat) (e e' : va_E) : fw_up (fw_up w a e) a e' = fw_up w a e' := by
  funext q
  by_cases h : q = a <;> simp [fw_up, h]
theorem fw_id {w : fw_W} {a : Nat} {e : va_E} (h : w a = some e) : fw_up w a e = w := by
  funext q
  by_cases hq : q = a
  · subst hq; simp [fw_up, h]
  · simp [fw_up, hq]
theorem fw_comm {w : fw_W} {a b : Nat} {e e' : va_E} (h : a ≠ b) : fw_up (fw_up w a e) b e' = fw_up (fw_up w b e') a e := by
  funext q
  by_cases h1 : q = a
  · subst h1; simp [fw_up, h]
  · by_cases h2 : q = b
    · subst h2; simp [fw_up, h1]
    · simp [fw_up, h1, h2]
def fw_P (D : va_G) (cl : List vw_C) (B n : Nat) (w : fw_W) (H : Heap) : Prop := H.size = n ∧ B ≤ n ∧ ∀ (a : Nat) (e : va_E), w a = some e → B ≤ a ∧ va_at D cl (a, e) H
theorem fw_P.one {D : va_G} {cl : List vw_C} {B n : Nat} {w : fw_W} {H : Heap} (h : fw_P D cl B n w H) {a : Nat} {e : va_E} (ha : w a = some e) : va_P D cl [(a, e)] H := by
  intro k q hk
  match k, hk with
  | 0, hk => cases hk; exact (h.2.2 a e ha).2
  | k + 1, hk => simp at hk
theorem fw_P.two {D : va_G} {cl : List vw_C} {B n : Nat} {w : fw_W} {H : Heap} (h : fw_P D cl B n w H) {a b : Nat} {e f : va_E} (ha : w a = some e) (hb : w b = some f) : va_P D cl [(a, e), (b, f)] H := by
  intro k q hk
  match k, hk with
  | 0, hk => cases hk; exact (h.2.2 a e ha).2
  | 1, hk => cases hk; exact (h.2.2 b f hb).2
  | k + 2, hk => simp at hk
theorem fw_P.lt {D : va_G} {cl : List vw_C} {B n : Nat} {w : fw_W} {H : Heap} (h : fw_P D cl B n w H) {a : Nat} {e : va_E} (ha : w a = some e) : a < n := by
  have h1 : a < H.size := (h.2.2 a e ha).2.lt
  rw [h.1] at h1
  exact h1
theorem fw_P.put {D : va_G} {cl : List vw_C} {B n : Nat} {w : fw_W} {H : Heap} (h : fw_P D cl B n w H) {a : Nat} {e0 e : va_E} (ha : w a = some e0) {H1 : Heap} (z : H1.size = H.size) (oq : ∀ q : Nat, q ≠ a → H1[q]? = H[q]?) (he : va_at D cl (a, e) H1) : fw_P D cl B n (fw_up w a e) H1 := by
  refine ⟨z.trans h.1, h.2.1, fun b e' hb => ?_⟩
  by_cases hba : b = a
  · subst hba
    rw [fw_same] at hb
    cases hb
    exact ⟨(h.2.2 _ _ ha).1, he⟩
  · rw [fw_ne hba] at hb
    exact ⟨(h.2.2 _ _ hb).1, (h.2.2 _ _ hb).2.kept (oq b hba)⟩
theorem fw_P.push {D : va_G} {cl : List vw_C} {B n : Nat} {w : fw_W} {H : Heap} (h : fw_P D cl B n w H) {e : va_E} {H1 : Heap} (z : H1.size = n + 1) (o1 : ∀ q : Nat, q < n → H1[q]? = H[q]?) (he : va_at D cl (n, e) H1) : fw_P D cl B (n + 1) (fw_up w n e) H1 := by
  refine ⟨z, Nat.le_succ_of_le h.2.1, fun b e' hb => ?_⟩
  by_cases hba : b = n
  · rw [hba, fw_same] at hb
    cases hb
    rw [hba]
    exact ⟨h.2.1, he⟩
  · rw [fw_ne hba] at hb
    exact ⟨(h.2.2 _ _ hb).1, (h.2.2 _ _ hb).2.kept (o1 b (h.lt hb))⟩
theorem fw_P.sub {D : va_G} {cl : List vw_C} {B n : Nat} {w : fw_W} {H : Heap} (h : fw_P D cl B n w H) {w' : fw_W} (hs : ∀ (a : Nat) (e : va_E), w' a = some e → w a = some e) : fw_P D cl B n w' H := ⟨h.1, h.2.1, fun a e ha => h.2.2 a e (hs a e ha)⟩
def fw_S (B : Nat) (H0 H : Heap) (locs : List Loc) : Prop := va_S (fun q => B ≤ q) H0 H locs
theorem fw_S.push {B : Nat} {H0 H H1 : Heap} {locs : List Loc} {n : Nat} (hS : fw_S B H0 H locs) (hn : H.size = n) (z : H1.size = n + 1) (o1 : ∀ q : Nat, q < n → H1[q]? = H[q]?) : fw_S B H0 H1 locs :=
  ⟨Nat.le_trans hS.1 (by omega), fun x h1 h2 => (o1 x (by have := hS.1; omega)).trans (hS.2.1 x h1 h2), hS.2.2⟩
/-! the tables' words that every state behind a call keeps -/
def fw_isN : Cond → Bool
  | .fieldLinkNest .. => true
  | .methodLinkNest .. => true
  | .arrayOver (.object _) => true
  | _ => false
def fw_kind (x : Cond) : Bool := goodWord x || fw_isN x
def fw_tbl : List Cond := lw_tbl.filter fw_kind
theorem fw_mem {x : Cond} (i : Nat) (h : lw_tbl[i]? = some x) (hk : fw_kind x = true) : x ∈ fw_tbl := List.mem_filter.mpr ⟨List.mem_of_getElem? h, hk⟩
theorem fw_moved {x : Cond} (hk : fw_kind x = true) {A A' : Array Value} {s U : State} (hW : s.WarmedH U.vm) (h : x.before A s = true) : x.before A' U = true := by
  unfold fw_kind at hk
  rw [Bool.or_eq_true] at hk
  rcases hk with hk | hk
  · exact word_at hW (good_of_word hk) h
  · cases x
    case fieldLinkNest => exact va_Nw.use rfl (va_Nw.warmF hW (va_Nw.of rfl h))
    case methodLinkNest => exact va_Nw.use rfl (va_Nw.warmM hW (va_Nw.of rfl h))
    case arrayOver ty =>
      cases ty
      case object C => exact va_AO.use (va_AO.moved hW.alike (va_AO.of h))
      all_goals exact absurd hk (by simp [fw_isN])
    all_goals exact absurd hk (by simp [fw_isN])
def fw_G (U : State) : Prop := ∀ x ∈ fw_tbl, x.before #[] U = true
theorem fw_G.at {s : State} (h : fw_G s) (args : Array Value) : ∀ x ∈ fw_tbl, x.before args s = true := fun x hx => fw_moved (List.mem_filter.mp hx).2 (State.WarmedH.refl s) (h x hx)
theorem fw_G.moved {s U : State} (hW : s.WarmedH U.vm) (h : fw_G s) : fw_G U := fun x hx => fw_moved (List.mem_filter.mp hx).2 hW (h x hx)
theorem fw_G.of {s : State} {args : Array Value} (h : ∀ x ∈ lw_tbl, x.before args s = true) : fw_G s := fun x hx => fw_moved (List.mem_filter.mp hx).2 (State.WarmedH.refl s) (h x (List.mem_filter.mp hx).1)
/-- a method's contract: from the world w of size n it comes to an answer and a world with 'post' -/
def fw_Pc (D : va_G) (cl : List vw_C) (tys : List (ClassId × FieldType)) (B : Nat) (av : List Value) (n : Nat) (w : fw_W) : Array Value → State → Prop := va_Pc av (fun U => fw_P D cl B n w U.heap ∧ va_K D cl tys U ∧ fw_G U)
def fw_Qc (D : va_G) (cl : List vw_C) (B : Nat) (post : Option Value → fw_W → Nat → Prop) : Array Value → State → Outcome → State → Prop := fun _ st oc t => ∃ (r : Option Value) (w' : fw_W) (n' : Nat), oc = .returned r ∧ post r w' n' ∧ fw_P D cl B n' w' t.heap ∧ va_F (fun q => B ≤ q) st t
def fw_C (l : Launch) (D : va_G) (cl : List vw_C) (tys : List (ClassId × FieldType)) (B : Nat) (y : MethodName) (cc : ByteArray) (maxL : Nat) (ret : Option FieldType) (rm : Room) (av : List Value) (n : Nat) (w : fw_W) (post : Option Value → fw_W → Nat → Prop) : Prop :=
  Met l y [Cond.code y cc maxL ret] rm (fw_Pc D cl tys B av n w) (fw_Qc D cl B post) rm.cells rm.slots (fun q => B ≤ q)
theorem fw_blind {D : va_G} {cl : List vw_C} {tys : List (ClassId × FieldType)} {B : Nat} {av : List Value} {n : Nat} {w : fw_W} : FrameBlind (fw_Pc D cl tys B av n w) := by
  intro a U g mk q
  obtain ⟨q0, q1, q2, q3⟩ := q
  exact ⟨q0, q1, va_K.moved (u := U) (U := U.calling g mk a) (Vm.Alike.refl U.vm) q2, fw_G.moved (s := U) (U := U.calling g mk a) (State.WarmedH.refl U) q3⟩
/-- the walk's goal inside a method that has such a contract -/
abbrev fw_K (p : Program) (l : Launch) (e : Env) (rm : Room) (s : State) (m : MethodId) (av : List Value) (below : List Frame) (meth : Method) (c : Code) (D : va_G) (cl : List vw_C) (B : Nat) (post : Option Value → fw_W → Nat → Prop) (H : Heap) (locs : List Loc) (cells slots : Nat) (g : JFrame) : Prop :=
  W p l e rm s m av.toArray below meth c H locs cells slots (MQ below (fw_Qc D cl B post) av.toArray s rm.cells rm.slots (fun q => B ≤ q)) g
theorem fw_enter {l : Launch} {D : va_G} {cl : List vw_C} {tys : List (ClassId × FieldType)} {B : Nat} {y : MethodName} {rm : Room} {av : List Value} {n : Nat} {w : fw_W} {post : Option Value → fw_W → Nat → Prop} {cc : ByteArray} {maxL : Nat} {ret : Option FieldType} (hy : plainName y.cls = true) (hlen : (lg_sl av).length ≤ maxL)
    (body : ∀ (p : Program) (e : Env) (s : State) (m : MethodId) (below : List Frame) (meth : Method) (c : Code), p.tables.exec = Jvm.exec → c.code = cc → meth.sig.returnType = ret → c.maxLocals = maxL → s.vm.findClass y.cls = some m.cls → meth.locks = false → meth.name = y.name → fw_G s → (∀ x ∈ fw_tbl, x.before av.toArray s = true) → va_K D cl tys s → ∀ (H : Heap) (locs : List Loc), fw_P D cl B n w H → fw_S B s.heap H locs → ∀ ls : Array Slot, lv_has ls maxL (lv_args 0 av) →
      fw_K p l e rm s m av below meth c D cl B post H locs 0 0 (F0 m 0 ls [])) : fw_C l D cl tys B y cc maxL ret rm av n w post := by
  refine Met.ofW (cc := cc) (maxL := maxL) (ret := ret) hy rfl ?_
  intro p e s m args below meth c s₁ Bd hml hv
  obtain ⟨rfl, hP, hK, hG⟩ := hv
  have hl := lv_entry av (n := maxL) hlen
  rw [lg_entry_eq]
  exact body p e s m below meth c Bd.exec Bd.bytes Bd.returns hml (findClass_of_methodNamed Bd.named) Bd.notSynchronized (name_of_methodNamed Bd.named Bd.method).1 hG (hG.at _) hK _ _ hP va_S.rf _ hl
theorem fw_C.mono {l : Launch} {D : va_G} {cl : List vw_C} {tys : List (ClassId × FieldType)} {B : Nat} {y : MethodName} {rm : Room} {av : List Value} {n : Nat} {w : fw_W} {post post2 : Option Value → fw_W → Nat → Prop} {cc : ByteArray} {maxL : Nat} {ret : Option FieldType} (h : fw_C l D cl tys B y cc maxL ret rm av n w post) (hp : ∀ r w1 n1, post r w1 n1 → post2 r w1 n1) : fw_C l D cl tys B y cc maxL ret rm av n w post2 := by
  intro p e h1 h2 h3 s m args below h4 h5 h6 h7
  obtain ⟨k, o, a1, a2, a3, ⟨r, w1, n1, b1, b2, b3⟩, a4⟩ := h p e h1 h2 h3 s m args below h4 h5 h6 h7
  exact ⟨k, o, a1, a2, a3, ⟨r, w1, n1, b1, hp r w1 n1 b2, b3⟩, a4⟩
theorem fw_loop {α : Type} (μ : α → Nat) {P : α → Prop} (h : ∀ x, (∀ y, μ y < μ x → P y) → P x) : ∀ x, P x := fun x => (measure μ).wf.induction x h
theorem fw_under {w1 w2 : fw_W} (h : w1 = w2) (a : Nat) (e : va_E) : fw_up w1 a e = fw_up w2 a e := by rw [h]
theorem fw_swap {w w2 : fw_W} {a b : Nat} {e e' : va_E} (hab : a ≠ b) (h : fw_up w b e' = w2) : fw_up (fw_up w a e) b e' = fw_up w2 a e := (fw_comm hab).trans (fw_under h a e)
theorem fw_P.eqw {D : va_G} {cl : List vw_C} {B n : Nat} {w w2 : fw_W} {H : Heap} (h : w = w2) (hP : fw_P D cl B n w H) : fw_P D cl B n w2 H := h ▸ hP
theorem fw_nio {w : fw_W} {a b : Nat} {x : ClassId × vp_A} {y : Nat × List Value} (h1 : w a = some (.inl x)) (h2 : w b = some (.inr y)) : a ≠ b := fun q => by rw [q, h2] at h1; cases h1
theorem fw_noo {w : fw_W} {a b i j : Nat} {x y : List Value} (h1 : w a = some (.inr (i, x))) (h2 : w b = some (.inr (j, y))) (hij : i ≠ j) : a ≠ b := fun q => by rw [q, h2] at h1; exact hij (Prod.mk.inj (Sum.inr.inj (Option.some.inj h1))).1.symm
theorem fw_niq {w : fw_W} {a b N M : Nat} {cA cB : ClassId} {f : Nat → Int32} {g : Nat → Option Nat} (h1 : w a = some (.inl (cA, N, .inl f))) (h2 : w b = some (.inl (cB, M, .inr (.inr (.inr (.inr g)))))) : a ≠ b := fun q => by rw [q, h2] at h1; cases h1
section FW
variable {p : Program} {l : Launch} {e : Env} {R : Room} {s : State} {m : MethodId} {args : Array Value} {below : List Frame} {meth : Method} {c : Code} {H : Heap} {locs : List Loc} {cells slots : Nat} {Q : State → Prop}
variable {cc : ByteArray} {pc : Nat} {ls : Array Slot} {rest : List Value} {D : va_G} {cl : List vw_C} {a : Nat} {tys : List (ClassId × FieldType)} {B n : Nat} {w : fw_W} {H0 : Heap}
/-! the ends of a method -/
theorem fw_end {rm : Room} {post : Option Value → fw_W → Nat → Prop} {r : Option Value} (hP : fw_P D cl B n w H) (hS : fw_S B s.heap H locs) (hpost : post r w n) : ∀ t : State, t.heap = H → s.WarmedH t.vm → fw_Qc D cl B post args s (.returned r) t :=
  fun t ht _ => ⟨r, w, n, rfl, hpost, by rw [ht]; exact hP, va_S.F hS ht⟩
theorem fw_vret {rm : Room} {post : Option Value → fw_W → Nat → Prop} (hx : p.tables.exec = Jvm.exec) (hb : c.code = cc) (hr : meth.sig.returnType = none) (hlocks : meth.locks = false) (hP : fw_P D cl B n w H) (hS : fw_S B s.heap H locs) (hdg : decode cc pc = .ok (.return_, 1)) (hc : cells ≤ rm.cells) (hs : slots ≤ rm.slots) (hpost : post none w n) :
    W p l e R s m args below meth c H locs cells slots (MQ below (fw_Qc D cl B post) args s rm.cells rm.slots (fun q => B ≤ q)) (F0 m pc ls []) := by
  refine W.widen (k := rm.cells) (n := rm.slots) hc hs ?_
  exact W.vret hx hb hr (fw_end (rm := rm) hP hS hpost) hS.2.2 hdg hlocks
theorem fw_iret {rm : Room} {post : Option Value → fw_W → Nat → Prop} {v : Int32} (hx : p.tables.exec = Jvm.exec) (hb : c.code = cc) (hr : meth.sig.returnType = some .int) (hlocks : meth.locks = false) (hP : fw_P D cl B n w H) (hS : fw_S B s.heap H locs) (hdg : decode cc pc = .ok (.ireturn, 1)) (hc : cells ≤ rm.cells) (hs : slots ≤ rm.slots) (hpost : post (some (.int v)) w n) :
    W p l e R s m args below meth c H locs cells slots (MQ below (fw_Qc D cl B post) args s rm.cells rm.slots (fun q => B ≤ q)) (F0 m pc ls [.int v]) := by
  refine W.widen (k := rm.cells) (n := rm.slots) hc hs ?_
  exact W.iret hx hb hr (fw_end (rm := rm) hP hS hpost) hS.2.2 hdg hlocks
theorem fw_zret {rm : Room} {post : Option Value → fw_W → Nat → Prop} {v : Int32} (hx : p.tables.exec = Jvm.exec) (hb : c.code = cc) (hr : meth.sig.returnType = some .boolean) (hlocks : meth.locks = false) (hP : fw_P D cl B n w H) (hS : fw_S B s.heap H locs) (hdg : decode cc pc = .ok (.ireturn, 1)) (hv : v = 0 ∨ v = 1) (hc : cells ≤ rm.cells) (hs : slots ≤ rm.slots) (hpost : post (some (.int v)) w n) :
    W p l e R s m args below meth c H locs cells slots (MQ below (fw_Qc D cl B post) args s rm.cells rm.slots (fun q => B ≤ q)) (F0 m pc ls [.int v]) := by
  refine W.widen (k := rm.cells) (n := rm.slots) hc hs ?_
  exact W.zret hx hb hr (by rcases hv with rfl | rfl <;> rfl) (fw_end (rm := rm) hP hS hpost) hS.2.2 hdg hlocks
theorem fw_lret {rm : Room} {post : Option Value → fw_W → Nat → Prop} {v : Int64} (hx : p.tables.exec = Jvm.exec) (hb : c.code = cc) (hr : meth.sig.returnType = some .long) (hlocks : meth.locks = false) (hP : fw_P D cl B n w H) (hS : fw_S B s.heap H locs) (hdg : decode cc pc = .ok (.lreturn, 1)) (hc : cells ≤ rm.cells) (hs : slots ≤ rm.slots) (hpost : post (some (.long v)) w n) :
    W p l e R s m args below meth c H locs cells slots (MQ below (fw_Qc D cl B post) args s rm.cells rm.slots (fun q => B ≤ q)) (F0 m pc ls [.long v]) := by
  refine W.widen (k := rm.cells) (n := rm.slots) hc hs ?_
  exact W.lret hx hb hr (fw_end (rm := rm) hP hS hpost) hS.2.2 hdg hlocks
theorem fw_aret {rm : Room} {post : Option Value → fw_W → Nat → Prop} {v : Value} {C : String} (hx : p.tables.exec = Jvm.exec) (hb : c.code = cc) (hr : meth.sig.returnType = some (.object C)) (hlocks : meth.locks = false) (hP : fw_P D cl B n w H) (hS : fw_S B s.heap H locs) (hdg : decode cc pc = .ok (.areturn, 1)) (hv : v = .null ∨ ∃ a, v = .ref a) (hc : cells ≤ rm.cells) (hs : slots ≤ rm.slots) (hpost : post (some v) w n) :
    W p l e R s m args below meth c H locs cells slots (MQ below (fw_Qc D cl B post) args s rm.cells rm.slots (fun q => B ≤ q)) (F0 m pc ls [v]) := by
  refine W.widen (k := rm.cells) (n := rm.slots) hc hs ?_
  exact W.aret hx hb hr (Or.inl ⟨_, rfl⟩) hv (fw_end (rm := rm) hP hS hpost) hS.2.2 hdg hlocks
/-! fields -/
theorem fw_get (hx : p.tables.exec = Jvm.exec) (hb : c.code = cc) {own C : String} {T : u_T} {N ci index : Nat} {Ts : List Cond} {fs : List Value} {k : Nat} {v : Value} (hts : ∀ x ∈ Ts, x.before args s = true) (hin : ∀ x ∈ u_ws C T N, x ∈ Ts) (hown : s.vm.findClass own = some m.cls) (hK : va_K D cl tys s) (hP : fw_P D cl B n w H) (he : w a = some (.inr (ci, fs))) (hc : cl[ci]? = some (C, T, N)) (hk : k < N) (hlink : Cond.fieldLink own index (T k).1 (T k).2.1 (T k).2.2.1 ∈ Ts) (hv : fs[k]? = some v) (hdg : decode cc pc = .ok (.getfield index, 3))
    (kk : W p l e R s m args below meth c H locs cells slots Q (F0 m (pc + 3) ls (v :: rest))) : W p l e R s m args below meth c H locs cells slots Q (F0 m pc ls (.ref a :: rest)) :=
  va_get hx hb hts hin hown hK (hP.one he) 0 rfl hc k hk (hts _ hlink) (fun _ h => h) hv hdg kk
theorem fw_getN (hx : p.tables.exec = Jvm.exec) (hb : c.code = cc) {own C host : String} {T : u_T} {N ci index : Nat} {Ts : List Cond} {fs : List Value} {k : Nat} {v : Value} (hts : ∀ x ∈ Ts, x.before args s = true) (hin : ∀ x ∈ u_ws C T N, x ∈ Ts) (hown : s.vm.findClass own = some m.cls) (hK : va_K D cl tys s) (hP : fw_P D cl B n w H) (he : w a = some (.inr (ci, fs))) (hc : cl[ci]? = some (C, T, N)) (hk : k < N) (hlink : Cond.fieldLinkNest own index (T k).1 (T k).2.1 (T k).2.2.1 host ∈ Ts) (hv : fs[k]? = some v) (hdg : decode cc pc = .ok (.getfield index, 3))
    (kk : W p l e R s m args below meth c H locs cells slots Q (F0 m (pc + 3) ls (v :: rest))) : W p l e R s m args below meth c H locs cells slots Q (F0 m pc ls (.ref a :: rest)) :=
  va_getN hx hb hts hin hown hK (hP.one he) 0 rfl hc k hk (hts _ hlink) (fun _ h => h) hv hdg kk
/-- what a store into a field leaves -/
theorem fw_stored {C : String} {T : u_T} {N ci : Nat} {fs : List Value} {k : Nat} {v : Value} {cell : Cell} {H1 : Heap} (hP : fw_P D cl B n w H) (he : w a = some (.inr (ci, fs))) (hc : cl[ci]? = some (C, T, N)) (hk : k < N) (hl : k < fs.length) (hap : ∀ x y, x < N → y < N → x ≠ y → (D.2 ci) x ≠ (D.2 ci) y) (q2 : cell.cls = D.1 ci) (q3 : cell.vm = .none) (q4 : ∀ j, j < N → cell.slots[D.2 ci j]? = some (vp_V fs j)) (e1 : H1[a]? = some (cell.setSlot (D.2 ci k) v)) (e2 : H1.size = H.size) (e3 : ∀ q, q ≠ a → H1[q]? = H[q]?) : fw_P D cl B n (fw_up w a (.inr (ci, fs.set k v))) H1 :=
  hP.put he e2 e3 ⟨_, hc, t_OB.to (V := updV (vp_V fs) k v) ⟨_, e1, q2, q3, t_set q4 hap hk v⟩ (fun j _ => vp_updV_set hl v j)⟩
theorem fw_put (hx : p.tables.exec = Jvm.exec) (hb : c.code = cc) {own C : String} {T : u_T} {N ci index : Nat} {Ts : List Cond} {fs : List Value} {k : Nat} {v : Value} {ty : FieldType} (hts : ∀ x ∈ Ts, x.before args s = true) (hin : ∀ x ∈ u_ws C T N, x ∈ Ts) (ty0 : Nat → FieldType) (hty : ∀ k, k < N → parseFieldDescriptor (T k).2.2.1 = some (ty0 k)) (hnm : ∀ a, a < N → ∀ b, b < N → a ≠ b → (T a).2.1 ≠ (T b).2.1) (hown : s.vm.findClass own = some m.cls) (hK : va_K D cl tys s) (hP : fw_P D cl B n w H) (hS : fw_S B H0 H locs) (he : w a = some (.inr (ci, fs))) (hc : cl[ci]? = some (C, T, N)) (hk : k < N) (hlink : Cond.fieldLink own index (T k).1 (T k).2.1 (T k).2.2.1 ∈ Ts) (hfin : (T k).2.2.2 = false) (hd : ty0 k = ty) (hn : narrow ty v = v) (hfit : fits ty v = true) (hl : k < fs.length) (hdg : decode cc pc = .ok (.putfield index, 3))
    (kk : ∀ (H1 : Heap) (locs1 : List Loc), fw_P D cl B n (fw_up w a (.inr (ci, fs.set k v))) H1 → fw_S B H0 H1 locs1 → W p l e R s m args below meth c H1 locs1 cells slots Q (F0 m (pc + 3) ls rest)) : W p l e R s m args below meth c H locs cells slots Q (F0 m pc ls (v :: .ref a :: rest)) := by
  have hap := va_apart (own := own) hts hin ty0 hty hnm hK hc
  obtain ⟨r, h1, cell, q1, q2, q3, q4⟩ := (hP.2.2 a _ he).2
  have hr : r = (C, T, N) := Option.some.inj (h1.symm.trans hc)
  subst hr
  obtain ⟨hSl, hfc, kC, hkC, hkind⟩ := hK.1 ci _ hc
  obtain ⟨cf, kf, fi, f, hi, hsl⟩ := hSl k hk
  have hlay := hts _ (hin _ (u_in_lay hk))
  unfold u_lay at hlay
  rw [if_neg (by rw [hfin]; decide)] at hlay
  have hst := (u_facts hfc hkC (u_lays hts hin hk) hi).1
  have h6 := u_store hfc hkC hkind hlay hi (hd ▸ hty k hk) hn hfit
  refine W.putK hx hb (f := f) ⟨hown, hts _ hlink, ⟨_, _, _, hi⟩, hst⟩ (by rw [q2]; exact h6) q1 q3 (by rw [hsl]; exact k2_hasslot (q4 k hk)) rfl rfl hdg fun H' e1 e2 e3 => ?_
  rw [hsl] at e1 ⊢
  exact kk H' _ (fw_stored hP he hc hk hl hap q2 q3 q4 e1 e2 e3) (va_S.put hS e2 e3 (hP.2.2 a _ he).1)
theorem fw_putF (hx : p.tables.exec = Jvm.exec) (hb : c.code = cc) {own C : String} {T : u_T} {N ci index : Nat} {Ts : List Cond} {fs : List Value} {k : Nat} {v : Value} {ty : FieldType} (hts : ∀ x ∈ Ts, x.before args s = true) (hin : ∀ x ∈ u_ws C T N, x ∈ Ts) (ty0 : Nat → FieldType) (hty : ∀ k, k < N → parseFieldDescriptor (T k).2.2.1 = some (ty0 k)) (hnm : ∀ a, a < N → ∀ b, b < N → a ≠ b → (T a).2.1 ≠ (T b).2.1) (hown : s.vm.findClass own = some m.cls) (hin2 : meth.name = "<init>") (hK : va_K D cl tys s) (hP : fw_P D cl B n w H) (hS : fw_S B H0 H locs) (he : w a = some (.inr (ci, fs))) (hc : cl[ci]? = some (C, T, N)) (hk : k < N) (hlink : Cond.fieldLink own index (T k).1 (T k).2.1 (T k).2.2.1 ∈ Ts) (hfin : (T k).2.2.2 = true) (hdecl : (T k).1 = own) (hd : ty0 k = ty) (hn : narrow ty v = v) (hfit : fits ty v = true) (hl : k < fs.length) (hdg : decode cc pc = .ok (.putfield index, 3))
    (kk : ∀ (H1 : Heap) (locs1 : List Loc), fw_P D cl B n (fw_up w a (.inr (ci, fs.set k v))) H1 → fw_S B H0 H1 locs1 → W p l e R s m args below meth c H1 locs1 cells slots Q (F0 m (pc + 3) ls rest)) : W p l e R s m args below meth c H locs cells slots Q (F0 m pc ls (v :: .ref a :: rest)) := by
  have hap := va_apart (own := own) hts hin ty0 hty hnm hK hc
  obtain ⟨r, h1, cell, q1, q2, q3, q4⟩ := (hP.2.2 a _ he).2
  have hr : r = (C, T, N) := Option.some.inj (h1.symm.trans hc)
  subst hr
  obtain ⟨hSl, hfc, kC, hkC, hkind⟩ := hK.1 ci _ hc
  obtain ⟨cf, kf, fi, f, hi, hsl⟩ := hSl k hk
  have hlay := hts _ (hin _ (u_in_lay hk))
  unfold u_lay at hlay
  rw [if_pos hfin] at hlay
  have hst := (u_facts hfc hkC (u_lays hts hin hk) hi).1
  have hcf : m.cls = cf := by
    obtain ⟨_, _, c', _, _, _, -, -, hf', -, -, -, hown2, -⟩ := Cond.laysFinal_spec hlay
    have e1 : c' = cf := by have := hi.symm.trans hf'; simp at this; exact this.1.symm
    rw [hdecl] at hown2
    rw [← e1]; exact Option.some.inj (hown.symm.trans hown2)
  have h6 := u_fits hfc hkC hkind (Or.inr hlay) hi (hd ▸ hty k hk) hn hfit
  refine W.putFinK hx hb hown (hts _ hlink) hi hst hcf hin2 (by rw [q2]; exact h6) q1 q3 (by rw [hsl]; exact k2_hasslot (q4 k hk)) rfl rfl hdg fun H' e1 e2 e3 => ?_
  rw [hsl] at e1 ⊢
  exact kk H' _ (fw_stored hP he hc hk hl hap q2 q3 q4 e1 e2 e3) (va_S.put hS e2 e3 (hP.2.2 a _ he).1)
/-! arrays: reads -/
theorem fw_iald (hx : p.tables.exec = Jvm.exec) (hb : c.code = cc) (hK : va_K D cl tys s) (hP : fw_P D cl B n w H) (t0 : Nat) {cA : ClassId} {N : Nat} {f : Nat → Int32} (ha : w a = some (.inl (cA, N, .inl f))) (ht : tys[t0]? = some (cA, .int)) {i : Int32} (hin : vp_in i N) (hdg : decode cc pc = .ok (.iaload, 1))
    (kk : W p l e R s m args below meth c H locs cells slots Q (F0 m (pc + 1) ls (.int (f i.toNatClampNeg) :: rest))) : W p l e R s m args below meth c H locs cells slots Q (F0 m pc ls (.int i :: .ref a :: rest)) :=
  va_iald hx hb hK (hP.one ha) 0 t0 rfl ht hin hdg kk
theorem fw_bald (hx : p.tables.exec = Jvm.exec) (hb : c.code = cc) (hK : va_K D cl tys s) (hP : fw_P D cl B n w H) (t0 : Nat) {cA : ClassId} {N : Nat} {f : Nat → Int32} (ha : w a = some (.inl (cA, N, .inl f))) (ht : tys[t0]? = some (cA, .byte)) {i : Int32} (hin : vp_in i N) (hdg : decode cc pc = .ok (.baload, 1))
    (kk : W p l e R s m args below meth c H locs cells slots Q (F0 m (pc + 1) ls (.int (f i.toNatClampNeg) :: rest))) : W p l e R s m args below meth c H locs cells slots Q (F0 m pc ls (.int i :: .ref a :: rest)) :=
  va_bald hx hb hK (hP.one ha) 0 t0 rfl ht hin hdg kk
theorem fw_zald (hx : p.tables.exec = Jvm.exec) (hb : c.code = cc) (hK : va_K D cl tys s) (hP : fw_P D cl B n w H) (t0 : Nat) {cA : ClassId} {N : Nat} {f : Nat → Int32} (ha : w a = some (.inl (cA, N, .inl f))) (ht : tys[t0]? = some (cA, .boolean)) {i : Int32} (hin : vp_in i N) (hdg : decode cc pc = .ok (.baload, 1))
    (kk : W p l e R s m args below meth c H locs cells slots Q (F0 m (pc + 1) ls (.int (f i.toNatClampNeg) :: rest))) : W p l e R s m args below meth c H locs cells slots Q (F0 m pc ls (.int i :: .ref a :: rest)) :=
  va_zald hx hb hK (hP.one ha) 0 t0 rfl ht hin hdg kk
theorem fw_lald (hx : p.tables.exec = Jvm.exec) (hb : c.code = cc) (hK : va_K D cl tys s) (hP : fw_P D cl B n w H) (t0 : Nat) {cA : ClassId} {N : Nat} {f : Nat → Int64} (ha : w a = some (.inl (cA, N, .inr (.inl f)))) (ht : tys[t0]? = some (cA, .long)) {i : Int32} (hin : vp_in i N) (hdg : decode cc pc = .ok (.laload, 1))
    (kk : W p l e R s m args below meth c H locs cells slots Q (F0 m (pc + 1) ls (.long (f i.toNatClampNeg) :: rest))) : W p l e R s m args below meth c H locs cells slots Q (F0 m pc ls (.int i :: .ref a :: rest)) :=
  va_lald hx hb hK (hP.one ha) 0 t0 rfl ht hin hdg kk
theorem fw_aldq (hx : p.tables.exec = Jvm.exec) (hb : c.code = cc) (hK : va_K D cl tys s) (hP : fw_P D cl B n w H) (t0 : Nat) {cA : ClassId} {C : String} {N : Nat} {f : Nat → Option Nat} (ha : w a = some (.inl (cA, N, .inr (.inr (.inr (.inr f)))))) (ht : tys[t0]? = some (cA, .object C)) {i : Int32} (hin : vp_in i N) (hdg : decode cc pc = .ok (.aaload, 1))
    (kk : W p l e R s m args below meth c H locs cells slots Q (F0 m (pc + 1) ls (va_rf (f i.toNatClampNeg) :: rest))) : W p l e R s m args below meth c H locs cells slots Q (F0 m pc ls (.int i :: .ref a :: rest)) :=
  va_aldq hx hb hK (hP.one ha) 0 t0 rfl ht hin hdg kk
theorem fw_alen (hx : p.tables.exec = Jvm.exec) (hb : c.code = cc) (hK : va_K D cl tys s) (hP : fw_P D cl B n w H) (t0 : Nat) {cA : ClassId} {x : vp_A} (ha : w a = some (.inl (cA, x))) {ty : FieldType} (ht : tys[t0]? = some (cA, ty)) (hdg : decode cc pc = .ok (.arraylength, 1))
    (kk : W p l e R s m args below meth c H locs cells slots Q (F0 m (pc + 1) ls (.int (nI x.1) :: rest))) : W p l e R s m args below meth c H locs cells slots Q (F0 m pc ls (.ref a :: rest)) :=
  va_alen hx hb hK (hP.one ha) 0 t0 rfl ht rfl hdg kk
/-! arrays: writes -/
theorem fw_iast (hx : p.tables.exec = Jvm.exec) (hb : c.code = cc) (hK : va_K D cl tys s) (hP : fw_P D cl B n w H) (hS : fw_S B H0 H locs) (t0 : Nat) {cA : ClassId} {N : Nat} {f : Nat → Int32} (ha : w a = some (.inl (cA, N, .inl f))) (ht : tys[t0]? = some (cA, .int)) {i x : Int32} (hin : vp_in i N) (hdg : decode cc pc = .ok (.iastore, 1))
    (kk : ∀ (H1 : Heap) (locs1 : List Loc), fw_P D cl B n (fw_up w a (.inl (cA, N, .inl (upd f i.toNatClampNeg x)))) H1 → fw_S B H0 H1 locs1 → W p l e R s m args below meth c H1 locs1 cells slots Q (F0 m (pc + 1) ls rest)) : W p l e R s m args below meth c H locs cells slots Q (F0 m pc ls (.int x :: .int i :: .ref a :: rest)) := by
  refine W.iast hx hb ((hP.2.2 a _ ha).2 : H[a]? = some (vp_cell _ _)) ((hK.2 t0 _ ht).1 N (fun j => .int (f j))) (fun q => by cases q) (by show ¬ (i < 0 ∨ (arrV _ _ _).slots.size ≤ _); rw [arrV_size]; exact hin) rfl rfl hdg fun H1 e z oq => ?_
  refine kk H1 _ (hP.put ha z oq ?_) (va_S.put hS z oq (hP.2.2 a _ ha).1)
  show H1[a]? = some (vp_cell _ _)
  rw [e, vp_cell_i, vp_cell_i, arrV_store]
  congr 2
  funext q
  by_cases hq : q = i.toNatClampNeg
  · subst hq; simp [updV, upd]
  · simp [updV, upd, hq]
theorem fw_bast (hx : p.tables.exec = Jvm.exec) (hb : c.code = cc) (hK : va_K D cl tys s) (hP : fw_P D cl B n w H) (hS : fw_S B H0 H locs) (t0 : Nat) {cA : ClassId} {N : Nat} {f : Nat → Int32} (ha : w a = some (.inl (cA, N, .inl f))) (ht : tys[t0]? = some (cA, .byte)) {i x : Int32} (hin : vp_in i N) (hdg : decode cc pc = .ok (.bastore, 1))
    (kk : ∀ (H1 : Heap) (locs1 : List Loc), fw_P D cl B n (fw_up w a (.inl (cA, N, .inl (upd f i.toNatClampNeg (vp_nar .byte x))))) H1 → fw_S B H0 H1 locs1 → W p l e R s m args below meth c H1 locs1 cells slots Q (F0 m (pc + 1) ls rest)) : W p l e R s m args below meth c H locs cells slots Q (F0 m pc ls (.int x :: .int i :: .ref a :: rest)) := by
  refine W.bast hx hb ((hP.2.2 a _ ha).2 : H[a]? = some (vp_cell _ _)) ((hK.2 t0 _ ht).1 N (fun j => .int (f j))) (fun q => by cases q) (by show ¬ (i < 0 ∨ (arrV _ _ _).slots.size ≤ _); rw [arrV_size]; exact hin) rfl rfl hdg fun H1 e z oq => ?_
  refine kk H1 _ (hP.put ha z oq ?_) (va_S.put hS z oq (hP.2.2 a _ ha).1)
  show H1[a]? = some (vp_cell _ _)
  rw [e, vp_cell_i, vp_cell_i, arrV_store]
  congr 2
  funext q
  by_cases hq : q = i.toNatClampNeg
  · subst hq
    simp [updV, upd, vp_nar]
    try rfl
  · simp [updV, upd, hq]
theorem fw_zast (hx : p.tables.exec = Jvm.exec) (hb : c.code = cc) (hK : va_K D cl tys s) (hP : fw_P D cl B n w H) (hS : fw_S B H0 H locs) (t0 : Nat) {cA : ClassId} {N : Nat} {f : Nat → Int32} (ha : w a = some (.inl (cA, N, .inl f))) (ht : tys[t0]? = some (cA, .boolean)) {i x : Int32} (hin : vp_in i N) (hdg : decode cc pc = .ok (.bastore, 1))
    (kk : ∀ (H1 : Heap) (locs1 : List Loc), fw_P D cl B n (fw_up w a (.inl (cA, N, .inl (upd f i.toNatClampNeg (vp_nar .boolean x))))) H1 → fw_S B H0 H1 locs1 → W p l e R s m args below meth c H1 locs1 cells slots Q (F0 m (pc + 1) ls rest)) : W p l e R s m args below meth c H locs cells slots Q (F0 m pc ls (.int x :: .int i :: .ref a :: rest)) := by
  refine W.zast hx hb ((hP.2.2 a _ ha).2 : H[a]? = some (vp_cell _ _)) ((hK.2 t0 _ ht).1 N (fun j => .int (f j))) (fun q => by cases q) (by show ¬ (i < 0 ∨ (arrV _ _ _).slots.size ≤ _); rw [arrV_size]; exact hin) rfl rfl hdg fun H1 e z oq => ?_
  refine kk H1 _ (hP.put ha z oq ?_) (va_S.put hS z oq (hP.2.2 a _ ha).1)
  show H1[a]? = some (vp_cell _ _)
  rw [e, vp_cell_i, vp_cell_i, arrV_store]
  congr 2
  funext q
  by_cases hq : q = i.toNatClampNeg
  · subst hq
    simp [updV, upd, vp_nar]
    try rfl
  · simp [updV, upd, hq]
theorem fw_last (hx : p.tables.exec = Jvm.exec) (hb : c.code = cc) (hK : va_K D cl tys s) (hP : fw_P D cl B n w H) (hS : fw_S B H0 H locs) (t0 : Nat) {cA : ClassId} {N : Nat} {f : Nat → Int64} (ha : w a = some (.inl (cA, N, .inr (.inl f)))) (ht : tys[t0]? = some (cA, .long)) {i : Int32} {x : Int64} (hin : vp_in i N) (hdg : decode cc pc = .ok (.lastore, 1))
    (kk : ∀ (H1 : Heap) (locs1 : List Loc), fw_P D cl B n (fw_up w a (.inl (cA, N, .inr (.inl (vp_updL f i.toNatClampNeg x))))) H1 → fw_S B H0 H1 locs1 → W p l e R s m args below meth c H1 locs1 cells slots Q (F0 m (pc + 1) ls rest)) : W p l e R s m args below meth c H locs cells slots Q (F0 m pc ls (.long x :: .int i :: .ref a :: rest)) := by
  refine W.last hx hb ((hP.2.2 a _ ha).2 : H[a]? = some (vp_cell _ _)) ((hK.2 t0 _ ht).1 N (fun j => .long (f j))) (fun q => by cases q) (by show ¬ (i < 0 ∨ (arrV _ _ _).slots.size ≤ _); rw [arrV_size]; exact hin) rfl rfl hdg fun H1 e z oq => ?_
  refine kk H1 _ (hP.put ha z oq ?_) (va_S.put hS z oq (hP.2.2 a _ ha).1)
  show H1[a]? = some (vp_cell _ _)
  rw [e, vp_cell_l, vp_cell_l, arrV_store]
  congr 2
  funext q
  by_cases hq : q = i.toNatClampNeg
  · subst hq; simp [updV, vp_updL]
  · simp [updV, vp_updL, hq]
theorem fw_astq (hx : p.tables.exec = Jvm.exec) (hb : c.code = cc) (hK : va_K D cl tys s) (hP : fw_P D cl B n w H) (hS : fw_S B H0 H locs) (t0 ci : Nat) {cA : ClassId} {r : vw_C} {N v : Nat} {vs : List Value} {f : Nat → Option Nat} (ha : w a = some (.inl (cA, N, .inr (.inr (.inr (.inr f)))))) (ht : tys[t0]? = some (cA, .object r.1)) (hv : w v = some (.inr (ci, vs))) (hc : cl[ci]? = some r) {i : Int32} (hin : vp_in i N) (hdg : decode cc pc = .ok (.aastore, 1))
    (kk : ∀ (H1 : Heap) (locs1 : List Loc), fw_P D cl B n (fw_up w a (.inl (cA, N, .inr (.inr (.inr (.inr (va_up f i.toNatClampNeg (some v)))))))) H1 → fw_S B H0 H1 locs1 → W p l e R s m args below meth c H1 locs1 cells slots Q (F0 m (pc + 1) ls rest)) : W p l e R s m args below meth c H locs cells slots Q (F0 m pc ls (.ref v :: .int i :: .ref a :: rest)) := by
  have hlt : i.toNatClampNeg < N := Nat.not_le.mp fun q => hin (Or.inr q)
  have h0 : ¬ i < 0 := fun q => hin (Or.inl q)
  obtain ⟨r', hr', cellV, g1, g2, g3, -⟩ := (hP.2.2 v _ hv).2
  have hcls := (hK.1 ci r hc).2
  obtain ⟨kA, comp, k1, k2, k3, -⟩ := (hK.2 t0 _ ht).2
  have hcomp : comp = D.1 ci := Option.some.inj (k3.symm.trans hcls.1)
  subst hcomp
  obtain ⟨kC, hkC, -⟩ := hcls.2
  refine W.aast hx hb ((hP.2.2 a _ ha).2 : H[a]? = some (vp_cell _ _)) (fun q h => by cases h) (fun h => by cases h) k1 k2 rfl hkC ⟨h0, by show _ < (arrV _ _ _).slots.size; rw [arrV_size]; exact hlt⟩ g1 (fun q h => by rw [g3] at h; cases h) (by rw [g2]; exact hkC) (by rw [g2]; exact va_assign hcls) rfl rfl hdg fun H1 e z oq => ?_
  refine kk H1 _ (hP.put ha z oq ?_) (va_S.put hS z oq (hP.2.2 a _ ha).1)
  show H1[a]? = some (vp_cell _ _)
  rw [e, vp_cell_q, vp_cell_q, arrV_store]
  congr 2
  funext q
  by_cases hq : q = i.toNatClampNeg
  · subst hq; simp [updV, va_up, va_rf]
  · simp [updV, va_up, hq]
/-! new cells -/
theorem fw_new (hx : p.tables.exec = Jvm.exec) (hb : c.code = cc) {own C : String} {T : u_T} {N ci index : Nat} {Ts : List Cond} (hts : ∀ x ∈ Ts, x.before args s = true) (hin : ∀ x ∈ u_ws C T N, x ∈ Ts) (ty : Nat → FieldType) (hty : ∀ k, k < N → parseFieldDescriptor (T k).2.2.1 = some (ty k)) (hown : s.vm.findClass own = some m.cls) (hcl : Cond.classLink own index C ∈ Ts) (hinst : Cond.instantiable C N ∈ Ts) (hini : Cond.initialized C ∈ Ts) (hK : va_K D cl tys s) (hP : fw_P D cl B n w H) (hS : fw_S B H0 H locs) (hc : cl[ci]? = some (C, T, N)) {fs : List Value} (hfs : ∀ j, j < N → defaultValue (ty j) = vp_V fs j) (hcells : cells + 1 ≤ R.cells) (hslots : slots + N ≤ R.slots) (hdg : decode cc pc = .ok (.new index, 3))
    (kk : ∀ (H1 : Heap), fw_P D cl B (n + 1) (fw_up w n (.inr (ci, fs))) H1 → fw_S B H0 H1 locs → W p l e R s m args below meth c H1 locs (cells + 1) (slots + N) Q (F0 m (pc + 3) ls (.ref n :: rest))) : W p l e R s m args below meth c H locs cells slots Q (F0 m pc ls rest) := by
  have hKn := hK.1 ci _ hc
  refine W.newcK hx hb hown (hts _ hcl) (hts _ hinst) (hts _ hini) rfl hdg hcells hslots hKn.2.1 hP.1 fun H1 kC hkC e1 z1 o1 => ?_
  exact kk H1 (hP.push z1 o1 ⟨_, hc, (u_born ty hts hin hKn hkC e1 hty).to hfs⟩) (hS.push hP.1 z1 o1)
theorem fw_newa (hx : p.tables.exec = Jvm.exec) (hb : c.code = cc) {atype : ArrayType} {Ts : List Cond} (hts : ∀ x ∈ Ts, x.before args s = true) (harr : Cond.arrayClass (newarray.typeOf atype) ∈ Ts) {ty : FieldType} (hty : newarray.typeOf atype = ty) (hK : va_K D cl tys s) (hP : fw_P D cl B n w H) (hS : fw_S B H0 H locs) (t0 : Nat) {cA : ClassId} (ht : tys[t0]? = some (cA, ty)) (hRA : va_RA s cA ty → s.vm.findClass ("[" ++ ty.toString) = some cA)
    {i : Int32} {N : Nat} {a0 : vp_A} (ha : vp_cell cA a0 = arrV cA N (fun _ => defaultValue ty)) (hn : ¬ i < 0) (hN : i.toNatClampNeg = N) (hbytes : N * componentBytes ty ≤ 536870912) (hcells : cells + 1 ≤ R.cells) (hslots : slots + N ≤ R.slots) (hdg : decode cc pc = .ok (.newarray atype, 2))
    (kk : ∀ (H1 : Heap), fw_P D cl B (n + 1) (fw_up w n (.inl (cA, a0))) H1 → fw_S B H0 H1 locs → W p l e R s m args below meth c H1 locs (cells + 1) (slots + N) Q (F0 m (pc + 2) ls (.ref n :: rest))) : W p l e R s m args below meth c H locs cells slots Q (F0 m pc ls (.int i :: rest)) := by
  subst hty
  refine va_newaK hx hb (hts _ harr) rfl hdg rfl hn hN hbytes hcells hslots hP.1 fun H1 cA' e1 z1 o1 hAr hNm => ?_
  have hcc : cA' = cA := Option.some.inj (hNm.symm.trans (hRA (hK.2 t0 _ ht).2))
  subst hcc
  refine kk H1 (hP.push z1 o1 ?_) (hS.push hP.1 z1 o1)
  show H1[n]? = some (vp_cell _ _)
  rw [ha]
  exact e1
theorem fw_newq (hx : p.tables.exec = Jvm.exec) (hb : c.code = cc) {own C : String} {index : Nat} {Ts : List Cond} (hts : ∀ x ∈ Ts, x.before args s = true) (hown : s.vm.findClass own = some m.cls) (hcl : Cond.classLink own index C ∈ Ts) (hover : Cond.arrayOver (.object C) ∈ Ts) (hK : va_K D cl tys s) (hP : fw_P D cl B n w H) (hS : fw_S B H0 H locs) (t0 : Nat) {cA : ClassId} (ht : tys[t0]? = some (cA, .object C))
    {i : Int32} {N : Nat} (hn : ¬ i < 0) (hN : i.toNatClampNeg = N) (hbytes : N * 4 ≤ 536870912) (hcells : cells + 1 ≤ R.cells) (hslots : slots + N ≤ R.slots) (hdg : decode cc pc = .ok (.anewarray index, 3))
    (kk : ∀ (H1 : Heap), fw_P D cl B (n + 1) (fw_up w n (.inl (cA, N, .inr (.inr (.inr (.inr (fun _ => none))))))) H1 → fw_S B H0 H1 locs → W p l e R s m args below meth c H1 locs (cells + 1) (slots + N) Q (F0 m (pc + 3) ls (.ref n :: rest))) : W p l e R s m args below meth c H locs cells slots Q (F0 m pc ls (.int i :: rest)) := by
  subst hN
  refine W.anew hx hb hown (hts _ hcl) (hts _ hover) rfl hdg rfl hn hbytes hcells hslots fun cA' kA comp f1 f2 f3 f4 => ?_
  obtain ⟨kB, comp2, k1, k2, k3, k4⟩ := (hK.2 t0 _ ht).2
  have hcc : cA' = cA := Option.some.inj (f1.symm.trans k4)
  subst hcc
  generalize hH1 : H.push ({ cls := cA', slots := Array.replicate i.toNatClampNeg .null, vm := .none } : Cell) = H1
  have hz := hP.1
  have z1 : H1.size = n + 1 := by rw [← hH1, Array.size_push, hz]
  have e1 : H1[n]? = some (arrV cA' i.toNatClampNeg (fun _ => .null)) := by rw [← hH1, ← hz, Array.getElem?_push_size, ← arrV_new]
  have o1 : ∀ q : Nat, q < n → H1[q]? = H[q]? := fun q hq => by rw [← hH1, Array.getElem?_push, if_neg (by omega)]
  rw [hz]
  refine kk H1 (hP.push z1 o1 ?_) (hS.push hz z1 o1)
  show H1[n]? = some (vp_cell _ _)
  rw [vp_cell_q]
  exact e1
/-! calls -/
theorem fw_call {y : MethodName} {mc ms : Nat} {post : Option Value → fw_W → Nat → Prop} {st0 : List Value} {aa : Array Value} (hr : va_Run p l e R s m args below meth c H locs cells slots mc ms (F0 m pc ls st0) rest (fw_Qc D cl B post aa) (fun q => B ≤ q)) (hS : fw_S B H0 H locs)
    (kk : ∀ (r : Option Value) (w' : fw_W) (n' : Nat) (H1 : Heap) (locs1 : List Loc), post r w' n' → fw_P D cl B n' w' H1 → fw_S B H0 H1 locs1 → W p l e R s m args below meth c H1 locs1 (cells + mc) (slots + ms) Q (F0 m (pc + 3) ls (r.toList ++ rest))) : W p l e R s m args below meth c H locs cells slots Q (F0 m pc ls st0) := by
  intro T hT X
  obtain ⟨v, st₀, t, T', L, h0, X', hL, e1, e2, ⟨r, w', n', hv, hp, hP', hz, hk⟩, st⟩ := hr T hT X
  cases hv
  rw [h0] at hz hk
  obtain ⟨t2, a1, b1⟩ := kk _ w' n' T'.heap (locs ++ L) hp (by rw [e1]; exact hP')
    ⟨Nat.le_trans hS.1 (by rw [e1]; exact hz), fun q h1 h2 => by rw [e1, hk q (Nat.lt_of_lt_of_le h1 hS.1) h2]; exact hS.2.1 q h1 h2, fun q hq => by
      rcases List.mem_append.mp hq with h | h
      · exact hS.2.2 q h
      · exact hL q h⟩ T' rfl X'
  exact ⟨t2, st t2 a1, b1⟩
theorem fw_preS {As : List Value} (hK : va_K D cl tys s) (hG : fw_G s) (hP : fw_P D cl B n w H) : PreS s H (fw_Pc D cl tys B As n w) As := ⟨fw_blind, fun U hU hW => ⟨rfl, by rw [hU]; exact hP, va_K.moved hW.alike hK, hG.moved hW⟩⟩
theorem fw_preV {As : List Value} {b ci : Nat} {C : String} {T : u_T} {N : Nat} {fs : List Value} (hK : va_K D cl tys s) (hG : fw_G s) (hP : fw_P D cl B n w H) (he : w b = some (.inr (ci, fs))) (hc : cl[ci]? = some (C, T, N)) : PreV s H C b (fw_Pc D cl tys B (.ref b :: As) n w) As := ⟨fw_blind, va_recv hK (hP.one he) hc (q0 := 0) rfl, fun U hU hW => ⟨rfl, by rw [hU]; exact hP, va_K.moved hW.alike hK, hG.moved hW⟩⟩
theorem fw_goodC {y : MethodName} {bytes : ByteArray} {maxL : Nat} {ret : Option FieldType} (h : Cond.code y bytes maxL ret ∈ fw_tbl) : GoodIn fw_tbl [Cond.code y bytes maxL ret] := by
  intro x hx
  rw [List.mem_singleton.mp hx]
  exact ⟨h, Or.inl rfl⟩
/-- a method's words in the tables -/
def fw_M (y : MethodName) (bytes : ByteArray) (maxL : Nat) (ret : Option FieldType) (n : Nat) : Prop := Cond.code y bytes maxL ret ∈ fw_tbl ∧ Cond.initialized y.cls ∈ fw_tbl ∧ (y.cls ≠ "java/lang/invoke/MethodHandle" ∧ y.cls ≠ "java/lang/invoke/VarHandle" ∧ (parseMethodDescriptor y.desc).map (fun d => d.parameters.length) = some n)
def fw_V (y : MethodName) : Prop := Cond.instanceMethod y ∈ fw_tbl ∧ Cond.selects y.cls y y ∈ fw_tbl
variable {y : MethodName} {bytes : ByteArray} {maxL nL k index : Nat} {ret : Option FieldType} {rm : Room} {post : Option Value → fw_W → Nat → Prop} {own : String} {b : Nat} {As st0 : List Value} {lv : List (Nat × Value)}
theorem fw_callV {ci : Nat} {T : u_T} {N : Nat} {fs : List Value} (hx : p.tables.exec = Jvm.exec) (hb : c.code = cc) (hml : c.maxLocals = nL) (hown : s.vm.findClass own = some m.cls) (hts : ∀ x ∈ fw_tbl, x.before args s = true) (hK : va_K D cl tys s) (hG : fw_G s) (hP : fw_P D cl B n w H) (hS : fw_S B H0 H locs) (hl : lv_has ls nL lv) (hM : fw_M y bytes maxL ret k) (hV : fw_V y) (hlink : Cond.methodLink own index y ∈ fw_tbl) (hC : fw_C l D cl tys B y bytes maxL ret rm (.ref b :: As) n w post) (he : w b = some (.inr (ci, fs))) (hc : cl[ci]? = some (y.cls, T, N)) (hst : st0 = As.reverse ++ .ref b :: rest) (hn : As.length = k) (hW : (rest.map fun v => v.category).sum ≤ 8) (hR : rm.frames + 1 ≤ R.frames ∧ 8 + (maxL + 11) + rm.locals ≤ R.locals) (hf : cells + rm.cells ≤ R.cells ∧ slots + rm.slots ≤ R.slots) (hdg : decode cc pc = .ok (.invokevirtual index, 3))
    (kk : ∀ (r : Option Value) (w' : fw_W) (n' : Nat) (H1 : Heap) (locs1 : List Loc), post r w' n' → fw_P D cl B n' w' H1 → fw_S B H0 H1 locs1 → W p l e R s m args below meth c H1 locs1 (cells + rm.cells) (slots + rm.slots) Q (F0 m (pc + 3) ls (r.toList ++ rest))) : W p l e R s m args below meth c H locs cells slots Q (F0 m pc ls st0) :=
  fw_call (y := y) (va_runV (As := As) (rest := rest) ⟨hx, hb, hml, hown, hts⟩ hC ⟨callB_of k hts (fw_goodC hM.1) rfl rfl rfl (hts _ hM.2.1) (hts _ hlink) hM.2.2 hR, hts _ hV.1, hts _ hV.2⟩ (fw_preV hK hG hP he hc) rfl hn hl.1 hst (lv_room hW) hdg hf) hS kk
theorem fw_callS (hx : p.tables.exec = Jvm.exec) (hb : c.code = cc) (hml : c.maxLocals = nL) (hown : s.vm.findClass own = some m.cls) (hts : ∀ x ∈ fw_tbl, x.before args s = true) (hK : va_K D cl tys s) (hG : fw_G s) (hP : fw_P D cl B n w H) (hS : fw_S B H0 H locs) (hl : lv_has ls nL lv) (hM : fw_M y bytes maxL ret k) (hV : Cond.static y ∈ fw_tbl) (hlink : Cond.methodLink own index y ∈ fw_tbl) (hC : fw_C l D cl tys B y bytes maxL ret rm As n w post) (hst : st0 = As.reverse ++ rest) (hn : As.length = k) (hW : (rest.map fun v => v.category).sum ≤ 8) (hR : rm.frames + 1 ≤ R.frames ∧ 8 + (maxL + 11) + rm.locals ≤ R.locals) (hf : cells + rm.cells ≤ R.cells ∧ slots + rm.slots ≤ R.slots) (hdg : decode cc pc = .ok (.invokestatic index, 3))
    (kk : ∀ (r : Option Value) (w' : fw_W) (n' : Nat) (H1 : Heap) (locs1 : List Loc), post r w' n' → fw_P D cl B n' w' H1 → fw_S B H0 H1 locs1 → W p l e R s m args below meth c H1 locs1 (cells + rm.cells) (slots + rm.slots) Q (F0 m (pc + 3) ls (r.toList ++ rest))) : W p l e R s m args below meth c H locs cells slots Q (F0 m pc ls st0) :=
  fw_call (y := y) (va_runS (As := As) (rest := rest) ⟨hx, hb, hml, hown, hts⟩ hC ⟨callB_of k hts (fw_goodC hM.1) rfl rfl rfl (hts _ hM.2.1) (hts _ hlink) hM.2.2 hR, hts _ hV⟩ (fw_preS hK hG hP) rfl hn hl.1 hst (lv_room hW) hdg hf) hS kk
theorem fw_callI (hx : p.tables.exec = Jvm.exec) (hb : c.code = cc) (hml : c.maxLocals = nL) (hown : s.vm.findClass own = some m.cls) (hts : ∀ x ∈ fw_tbl, x.before args s = true) (hK : va_K D cl tys s) (hG : fw_G s) (hP : fw_P D cl B n w H) (hS : fw_S B H0 H locs) (hl : lv_has ls nL lv) (hM : fw_M y bytes maxL none k) (hV : Cond.instanceMethod y ∈ fw_tbl) (hy : y.name = "<init>") (hlink : Cond.methodLink own index y ∈ fw_tbl) (hC : fw_C l D cl tys B y bytes maxL none rm (.ref b :: As) n w post) (hst : st0 = As.reverse ++ .ref b :: rest) (hn : As.length = k) (hW : (rest.map fun v => v.category).sum ≤ 8) (hR : rm.frames + 1 ≤ R.frames ∧ 8 + (maxL + 11) + rm.locals ≤ R.locals) (hf : cells + rm.cells ≤ R.cells ∧ slots + rm.slots ≤ R.slots) (hdg : decode cc pc = .ok (.invokespecial index, 3))
    (kk : ∀ (r : Option Value) (w' : fw_W) (n' : Nat) (H1 : Heap) (locs1 : List Loc), post r w' n' → fw_P D cl B n' w' H1 → fw_S B H0 H1 locs1 → W p l e R s m args below meth c H1 locs1 (cells + rm.cells) (slots + rm.slots) Q (F0 m (pc + 3) ls (r.toList ++ rest))) : W p l e R s m args below meth c H locs cells slots Q (F0 m pc ls st0) :=
  fw_call (y := y) (va_runI (As := As) (rest := rest) ⟨hx, hb, hml, hown, hts⟩ hC ⟨callB_of k hts (fw_goodC hM.1) rfl rfl rfl (hts _ hM.2.1) (hts _ hlink) hM.2.2 hR, hy, hts _ hV⟩ (fw_preS hK hG hP) rfl hn hl.1 hst (lv_room hW) hdg hf) hS kk
theorem fw_callIN {host : String} (hx : p.tables.exec = Jvm.exec) (hb : c.code = cc) (hml : c.maxLocals = nL) (hown : s.vm.findClass own = some m.cls) (hts : ∀ x ∈ fw_tbl, x.before args s = true) (hK : va_K D cl tys s) (hG : fw_G s) (hP : fw_P D cl B n w H) (hS : fw_S B H0 H locs) (hl : lv_has ls nL lv) (hM : fw_M y bytes maxL none k) (hV : Cond.instanceMethod y ∈ fw_tbl) (hy : y.name = "<init>") (hlink : Cond.methodLinkNest own index y host ∈ fw_tbl) (hC : fw_C l D cl tys B y bytes maxL none rm (.ref b :: As) n w post) (hst : st0 = As.reverse ++ .ref b :: rest) (hn : As.length = k) (hW : (rest.map fun v => v.category).sum ≤ 8) (hR : rm.frames + 1 ≤ R.frames ∧ 8 + (maxL + 11) + rm.locals ≤ R.locals) (hf : cells + rm.cells ≤ R.cells ∧ slots + rm.slots ≤ R.slots) (hdg : decode cc pc = .ok (.invokespecial index, 3))
    (kk : ∀ (r : Option Value) (w' : fw_W) (n' : Nat) (H1 : Heap) (locs1 : List Loc), post r w' n' → fw_P D cl B n' w' H1 → fw_S B H0 H1 locs1 → W p l e R s m args below meth c H1 locs1 (cells + rm.cells) (slots + rm.slots) Q (F0 m (pc + 3) ls (r.toList ++ rest))) : W p l e R s m args below meth c H locs cells slots Q (F0 m pc ls st0) :=
  fw_call (y := y) (va_runIN (As := As) (rest := rest) ⟨hx, hb, hml, hown, hts⟩ hC ⟨va_cnB k hts (fw_goodC hM.1) rfl rfl rfl (va_Nw.of rfl (hts _ hlink)) (hts _ hM.2.1) hM.2.2 hR, hy, hts _ hV⟩ (fw_preS hK hG hP) rfl hn hl.1 hst (lv_room hW) hdg hf) hS kk
end FW
